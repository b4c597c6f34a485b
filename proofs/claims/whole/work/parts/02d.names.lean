theorem dX10_in_0 : decode cX10_in 0 = .ok (.lload_n 0, 1) := by decide +kernel
theorem dX10_in_1 : decode cX10_in 1 = .ok (.lload_n 2, 1) := by decide +kernel
theorem dX10_in_2 : decode cX10_in 2 = .ok (.lcmp, 1) := by decide +kernel
theorem dX10_in_3 : decode cX10_in 3 = .ok (.ifCond .lt 14, 3) := by decide +kernel
theorem dX10_in_6 : decode cX10_in 6 = .ok (.lload_n 0, 1) := by decide +kernel
theorem dX10_in_7 : decode cX10_in 7 = .ok (.lload 4, 2) := by decide +kernel
theorem dX10_in_9 : decode cX10_in 9 = .ok (.lcmp, 1) := by decide +kernel
theorem dX10_in_10 : decode cX10_in 10 = .ok (.ifCond .gt 7, 3) := by decide +kernel
theorem dX10_in_13 : decode cX10_in 13 = .ok (.iconst 1, 1) := by decide +kernel
theorem dX10_in_14 : decode cX10_in 14 = .ok (.goto 4, 3) := by decide +kernel
theorem dX10_in_17 : decode cX10_in 17 = .ok (.iconst 0, 1) := by decide +kernel
theorem dX10_in_18 : decode cX10_in 18 = .ok (.ireturn, 1) := by decide +kernel
theorem dX10_feed_0 : decode cX10_feed 0 = .ok (.aload_n 0, 1) := by decide +kernel
theorem dX10_feed_1 : decode cX10_feed 1 = .ok (.getfield 63, 3) := by decide +kernel
theorem dX10_feed_4 : decode cX10_feed 4 = .ok (.bipush 8, 2) := by decide +kernel
theorem dX10_feed_6 : decode cX10_feed 6 = .ok (.iadd, 1) := by decide +kernel
theorem dX10_feed_7 : decode cX10_feed 7 = .ok (.sipush 200, 3) := by decide +kernel
theorem dX10_feed_10 : decode cX10_feed 10 = .ok (.if_icmp .le 6, 3) := by decide +kernel
theorem dX10_feed_13 : decode cX10_feed 13 = .ok (.bipush (-3), 2) := by decide +kernel
theorem dX10_feed_15 : decode cX10_feed 15 = .ok (.ireturn, 1) := by decide +kernel
theorem dX10_feed_16 : decode cX10_feed 16 = .ok (.bipush 56, 2) := by decide +kernel
theorem dX10_feed_18 : decode cX10_feed 18 = .ok (.istore_n 3, 1) := by decide +kernel
theorem dX10_feed_19 : decode cX10_feed 19 = .ok (.iload_n 3, 1) := by decide +kernel
theorem dX10_feed_20 : decode cX10_feed 20 = .ok (.ifCond .lt 36, 3) := by decide +kernel
theorem dX10_feed_23 : decode cX10_feed 23 = .ok (.aload_n 0, 1) := by decide +kernel
theorem dX10_feed_24 : decode cX10_feed 24 = .ok (.getfield 7, 3) := by decide +kernel
theorem dX10_feed_27 : decode cX10_feed 27 = .ok (.aload_n 0, 1) := by decide +kernel
theorem dX10_feed_28 : decode cX10_feed 28 = .ok (.getfield 63, 3) := by decide +kernel
theorem dX10_feed_31 : decode cX10_feed 31 = .ok (.lload_n 1, 1) := by decide +kernel
theorem dX10_feed_32 : decode cX10_feed 32 = .ok (.iload_n 3, 1) := by decide +kernel
theorem dX10_feed_33 : decode cX10_feed 33 = .ok (.lshr, 1) := by decide +kernel
theorem dX10_feed_34 : decode cX10_feed 34 = .ok (.l2i, 1) := by decide +kernel
theorem dX10_feed_35 : decode cX10_feed 35 = .ok (.sipush 255, 3) := by decide +kernel
theorem dX10_feed_38 : decode cX10_feed 38 = .ok (.iand, 1) := by decide +kernel
theorem dX10_feed_39 : decode cX10_feed 39 = .ok (.iastore, 1) := by decide +kernel
theorem dX10_feed_40 : decode cX10_feed 40 = .ok (.aload_n 0, 1) := by decide +kernel
theorem dX10_feed_41 : decode cX10_feed 41 = .ok (.dup, 1) := by decide +kernel
theorem dX10_feed_42 : decode cX10_feed 42 = .ok (.getfield 63, 3) := by decide +kernel
theorem dX10_feed_45 : decode cX10_feed 45 = .ok (.iconst 1, 1) := by decide +kernel
theorem dX10_feed_46 : decode cX10_feed 46 = .ok (.iadd, 1) := by decide +kernel
theorem dX10_feed_47 : decode cX10_feed 47 = .ok (.putfield 63, 3) := by decide +kernel
theorem dX10_feed_50 : decode cX10_feed 50 = .ok (.iinc 3 (-8), 3) := by decide +kernel
theorem dX10_feed_53 : decode cX10_feed 53 = .ok (.goto (-34), 3) := by decide +kernel
theorem dX10_feed_56 : decode cX10_feed 56 = .ok (.aload_n 0, 1) := by decide +kernel
theorem dX10_feed_57 : decode cX10_feed 57 = .ok (.getfield 63, 3) := by decide +kernel
theorem dX10_feed_60 : decode cX10_feed 60 = .ok (.ireturn, 1) := by decide +kernel
set_option maxRecDepth 20000 in
theorem ggX10_end_X10_in : GoodIn wsX10_end wsX10_in := goodIn_r _ [5] (by decide +kernel) (by decide +kernel)
set_option maxRecDepth 20000 in
theorem gX10_end_X10_in : GoodIn wsX10_end (va_wsS RX10 67 yX10_in wsX10_in) := goodIn_app (goodIn_of _ (by decide +kernel)) ggX10_end_X10_in
theorem dX10_end_0 : decode cX10_end 0 = .ok (.iload_n 1, 1) := by decide +kernel
theorem dX10_end_1 : decode cX10_end 1 = .ok (.i2l, 1) := by decide +kernel
theorem dX10_end_2 : decode cX10_end 2 = .ok (.lconst 0, 1) := by decide +kernel
theorem dX10_end_3 : decode cX10_end 3 = .ok (.aload_n 0, 1) := by decide +kernel
theorem dX10_end_4 : decode cX10_end 4 = .ok (.getfield 63, 3) := by decide +kernel
theorem dX10_end_7 : decode cX10_end 7 = .ok (.i2l, 1) := by decide +kernel
theorem dX10_end_8 : decode cX10_end 8 = .ok (.invokestatic 67, 3) := by decide +kernel
theorem dX10_end_11 : decode cX10_end 11 = .ok (.ifCond .ne 5, 3) := by decide +kernel
theorem dX10_end_14 : decode cX10_end 14 = .ok (.iconst (-1), 1) := by decide +kernel
theorem dX10_end_15 : decode cX10_end 15 = .ok (.ireturn, 1) := by decide +kernel
theorem dX10_end_16 : decode cX10_end 16 = .ok (.aload_n 0, 1) := by decide +kernel
theorem dX10_end_17 : decode cX10_end 17 = .ok (.getfield 63, 3) := by decide +kernel
theorem dX10_end_20 : decode cX10_end 20 = .ok (.istore_n 2, 1) := by decide +kernel
theorem dX10_end_21 : decode cX10_end 21 = .ok (.aload_n 0, 1) := by decide +kernel
theorem dX10_end_22 : decode cX10_end 22 = .ok (.iload_n 1, 1) := by decide +kernel
theorem dX10_end_23 : decode cX10_end 23 = .ok (.putfield 63, 3) := by decide +kernel
theorem dX10_end_26 : decode cX10_end 26 = .ok (.iload_n 2, 1) := by decide +kernel
theorem dX10_end_27 : decode cX10_end 27 = .ok (.ireturn, 1) := by decide +kernel
theorem dX10_byteAt_0 : decode cX10_byteAt 0 = .ok (.iload_n 1, 1) := by decide +kernel
theorem dX10_byteAt_1 : decode cX10_byteAt 1 = .ok (.aload_n 0, 1) := by decide +kernel
theorem dX10_byteAt_2 : decode cX10_byteAt 2 = .ok (.getfield 63, 3) := by decide +kernel
theorem dX10_byteAt_5 : decode cX10_byteAt 5 = .ok (.if_icmp .ge 12, 3) := by decide +kernel
theorem dX10_byteAt_8 : decode cX10_byteAt 8 = .ok (.aload_n 0, 1) := by decide +kernel
theorem dX10_byteAt_9 : decode cX10_byteAt 9 = .ok (.getfield 7, 3) := by decide +kernel
theorem dX10_byteAt_12 : decode cX10_byteAt 12 = .ok (.iload_n 1, 1) := by decide +kernel
theorem dX10_byteAt_13 : decode cX10_byteAt 13 = .ok (.iaload, 1) := by decide +kernel
theorem dX10_byteAt_14 : decode cX10_byteAt 14 = .ok (.goto 5, 3) := by decide +kernel
theorem dX10_byteAt_17 : decode cX10_byteAt 17 = .ok (.bipush (-4), 2) := by decide +kernel
theorem dX10_byteAt_19 : decode cX10_byteAt 19 = .ok (.ireturn, 1) := by decide +kernel
theorem dX10_fails_0 : decode cX10_fails 0 = .ok (.aload_n 0, 1) := by decide +kernel
theorem dX10_fails_1 : decode cX10_fails 1 = .ok (.getfield 71, 3) := by decide +kernel
theorem dX10_fails_4 : decode cX10_fails 4 = .ok (.ifCond .ne 16, 3) := by decide +kernel
theorem dX10_fails_7 : decode cX10_fails 7 = .ok (.aload_n 0, 1) := by decide +kernel
theorem dX10_fails_8 : decode cX10_fails 8 = .ok (.iload_n 1, 1) := by decide +kernel
theorem dX10_fails_9 : decode cX10_fails 9 = .ok (.putfield 71, 3) := by decide +kernel
theorem dX10_fails_12 : decode cX10_fails 12 = .ok (.aload_n 0, 1) := by decide +kernel
theorem dX10_fails_13 : decode cX10_fails 13 = .ok (.aload_n 0, 1) := by decide +kernel
theorem dX10_fails_14 : decode cX10_fails 14 = .ok (.getfield 74, 3) := by decide +kernel
theorem dX10_fails_17 : decode cX10_fails 17 = .ok (.putfield 77, 3) := by decide +kernel
theorem dX10_fails_20 : decode cX10_fails 20 = .ok (.return_, 1) := by decide +kernel
set_option maxRecDepth 20000 in
theorem ggX10_next_X10_byteAt : GoodIn wsX10_next wsX10_byteAt := goodIn_r _ [14, 15, 16, 25, 26, 27, 28, 29, 30, 31, 32, 33, 34, 35, 36, 37, 38, 39, 40, 41, 42, 43, 44, 45, 46, 47, 48, 49, 50, 51, 52, 53, 54, 55, 56] (by decide +kernel) (by decide +kernel)
set_option maxRecDepth 20000 in
theorem gX10_next_X10_byteAt : GoodIn wsX10_next (wsV RX10 83 RX10 yX10_byteAt wsX10_byteAt) := goodIn_app (goodIn_of _ (by decide +kernel)) ggX10_next_X10_byteAt
set_option maxRecDepth 20000 in
theorem ggX10_next_X10_in : GoodIn wsX10_next wsX10_in := goodIn_r _ [19] (by decide +kernel) (by decide +kernel)
set_option maxRecDepth 20000 in
theorem gX10_next_X10_in : GoodIn wsX10_next (va_wsS RX10 67 yX10_in wsX10_in) := goodIn_app (goodIn_of _ (by decide +kernel)) ggX10_next_X10_in
set_option maxRecDepth 20000 in
theorem ggX10_next_X10_fails : GoodIn wsX10_next wsX10_fails := goodIn_r _ [23, 1, 3, 24, 25, 26, 27, 28, 29, 30, 31, 32, 33, 34, 35, 36, 37, 38, 39, 40, 41, 42, 43, 44, 45, 46, 47, 48, 49, 50, 51, 52, 53, 54, 55, 56] (by decide +kernel) (by decide +kernel)
set_option maxRecDepth 20000 in
theorem gX10_next_X10_fails : GoodIn wsX10_next (wsV RX10 101 RX10 yX10_fails wsX10_fails) := goodIn_app (goodIn_of _ (by decide +kernel)) ggX10_next_X10_fails
theorem dX10_next_0 : decode cX10_next 0 = .ok (.aload_n 0, 1) := by decide +kernel
theorem dX10_next_1 : decode cX10_next 1 = .ok (.getfield 71, 3) := by decide +kernel
theorem dX10_next_4 : decode cX10_next 4 = .ok (.ifCond .le 4, 3) := by decide +kernel
theorem dX10_next_7 : decode cX10_next 7 = .ok (.return_, 1) := by decide +kernel
theorem dX10_next_8 : decode cX10_next 8 = .ok (.aload_n 0, 1) := by decide +kernel
theorem dX10_next_9 : decode cX10_next 9 = .ok (.aload_n 0, 1) := by decide +kernel
theorem dX10_next_10 : decode cX10_next 10 = .ok (.getfield 80, 3) := by decide +kernel
theorem dX10_next_13 : decode cX10_next 13 = .ok (.invokevirtual 83, 3) := by decide +kernel
theorem dX10_next_16 : decode cX10_next 16 = .ok (.bipush 32, 2) := by decide +kernel
theorem dX10_next_18 : decode cX10_next 18 = .ok (.if_icmp .ne 16, 3) := by decide +kernel
theorem dX10_next_21 : decode cX10_next 21 = .ok (.aload_n 0, 1) := by decide +kernel
theorem dX10_next_22 : decode cX10_next 22 = .ok (.dup, 1) := by decide +kernel
theorem dX10_next_23 : decode cX10_next 23 = .ok (.getfield 80, 3) := by decide +kernel
theorem dX10_next_26 : decode cX10_next 26 = .ok (.iconst 1, 1) := by decide +kernel
theorem dX10_next_27 : decode cX10_next 27 = .ok (.iadd, 1) := by decide +kernel
theorem dX10_next_28 : decode cX10_next 28 = .ok (.putfield 80, 3) := by decide +kernel
theorem dX10_next_31 : decode cX10_next 31 = .ok (.goto (-23), 3) := by decide +kernel
theorem dX10_next_34 : decode cX10_next 34 = .ok (.aload_n 0, 1) := by decide +kernel
theorem dX10_next_35 : decode cX10_next 35 = .ok (.aload_n 0, 1) := by decide +kernel
theorem dX10_next_36 : decode cX10_next 36 = .ok (.getfield 80, 3) := by decide +kernel
theorem dX10_next_39 : decode cX10_next 39 = .ok (.putfield 74, 3) := by decide +kernel
theorem dX10_next_42 : decode cX10_next 42 = .ok (.aload_n 0, 1) := by decide +kernel
theorem dX10_next_43 : decode cX10_next 43 = .ok (.aload_n 0, 1) := by decide +kernel
theorem dX10_next_44 : decode cX10_next 44 = .ok (.getfield 80, 3) := by decide +kernel
theorem dX10_next_47 : decode cX10_next 47 = .ok (.invokevirtual 83, 3) := by decide +kernel
theorem dX10_next_50 : decode cX10_next 50 = .ok (.istore_n 1, 1) := by decide +kernel
theorem dX10_next_51 : decode cX10_next 51 = .ok (.aload_n 0, 1) := by decide +kernel
theorem dX10_next_52 : decode cX10_next 52 = .ok (.iconst 0, 1) := by decide +kernel
theorem dX10_next_53 : decode cX10_next 53 = .ok (.putfield 87, 3) := by decide +kernel
theorem dX10_next_56 : decode cX10_next 56 = .ok (.iload_n 1, 1) := by decide +kernel
theorem dX10_next_57 : decode cX10_next 57 = .ok (.bipush (-4), 2) := by decide +kernel
theorem dX10_next_59 : decode cX10_next 59 = .ok (.if_icmp .ne 11, 3) := by decide +kernel
theorem dX10_next_62 : decode cX10_next 62 = .ok (.aload_n 0, 1) := by decide +kernel
theorem dX10_next_63 : decode cX10_next 63 = .ok (.iconst 0, 1) := by decide +kernel
theorem dX10_next_64 : decode cX10_next 64 = .ok (.putfield 90, 3) := by decide +kernel
theorem dX10_next_67 : decode cX10_next 67 = .ok (.goto 202, 3) := by decide +kernel
theorem dX10_next_70 : decode cX10_next 70 = .ok (.iload_n 1, 1) := by decide +kernel
theorem dX10_next_71 : decode cX10_next 71 = .ok (.i2l, 1) := by decide +kernel
theorem dX10_next_72 : decode cX10_next 72 = .ok (.ldc2_w 93, 3) := by decide +kernel
theorem dX10_next_75 : decode cX10_next 75 = .ok (.ldc2_w 95, 3) := by decide +kernel
theorem dX10_next_78 : decode cX10_next 78 = .ok (.invokestatic 67, 3) := by decide +kernel
theorem dX10_next_81 : decode cX10_next 81 = .ok (.ifCond .eq 45, 3) := by decide +kernel
theorem dX10_next_84 : decode cX10_next 84 = .ok (.aload_n 0, 1) := by decide +kernel
theorem dX10_next_85 : decode cX10_next 85 = .ok (.aload_n 0, 1) := by decide +kernel
theorem dX10_next_86 : decode cX10_next 86 = .ok (.getfield 80, 3) := by decide +kernel
theorem dX10_next_89 : decode cX10_next 89 = .ok (.invokevirtual 83, 3) := by decide +kernel
theorem dX10_next_92 : decode cX10_next 92 = .ok (.i2l, 1) := by decide +kernel
theorem dX10_next_93 : decode cX10_next 93 = .ok (.ldc2_w 93, 3) := by decide +kernel
theorem dX10_next_96 : decode cX10_next 96 = .ok (.ldc2_w 95, 3) := by decide +kernel
theorem dX10_next_99 : decode cX10_next 99 = .ok (.invokestatic 67, 3) := by decide +kernel
theorem dX10_next_102 : decode cX10_next 102 = .ok (.ifCond .eq 16, 3) := by decide +kernel
theorem dX10_next_105 : decode cX10_next 105 = .ok (.aload_n 0, 1) := by decide +kernel
theorem dX10_next_106 : decode cX10_next 106 = .ok (.dup, 1) := by decide +kernel
theorem dX10_next_107 : decode cX10_next 107 = .ok (.getfield 80, 3) := by decide +kernel
theorem dX10_next_110 : decode cX10_next 110 = .ok (.iconst 1, 1) := by decide +kernel
theorem dX10_next_111 : decode cX10_next 111 = .ok (.iadd, 1) := by decide +kernel
theorem dX10_next_112 : decode cX10_next 112 = .ok (.putfield 80, 3) := by decide +kernel
theorem dX10_next_115 : decode cX10_next 115 = .ok (.goto (-31), 3) := by decide +kernel
theorem dX10_next_118 : decode cX10_next 118 = .ok (.aload_n 0, 1) := by decide +kernel
theorem dX10_next_119 : decode cX10_next 119 = .ok (.iconst 1, 1) := by decide +kernel
theorem dX10_next_120 : decode cX10_next 120 = .ok (.putfield 90, 3) := by decide +kernel
theorem dX10_next_123 : decode cX10_next 123 = .ok (.goto 146, 3) := by decide +kernel
theorem dX10_next_126 : decode cX10_next 126 = .ok (.iload_n 1, 1) := by decide +kernel
theorem dX10_next_127 : decode cX10_next 127 = .ok (.i2l, 1) := by decide +kernel
theorem dX10_next_128 : decode cX10_next 128 = .ok (.ldc2_w 97, 3) := by decide +kernel
theorem dX10_next_131 : decode cX10_next 131 = .ok (.ldc2_w 99, 3) := by decide +kernel
theorem dX10_next_134 : decode cX10_next 134 = .ok (.invokestatic 67, 3) := by decide +kernel
theorem dX10_next_137 : decode cX10_next 137 = .ok (.ifCond .eq 106, 3) := by decide +kernel
theorem dX10_next_140 : decode cX10_next 140 = .ok (.aload_n 0, 1) := by decide +kernel
theorem dX10_next_141 : decode cX10_next 141 = .ok (.aload_n 0, 1) := by decide +kernel
theorem dX10_next_142 : decode cX10_next 142 = .ok (.getfield 80, 3) := by decide +kernel
theorem dX10_next_145 : decode cX10_next 145 = .ok (.invokevirtual 83, 3) := by decide +kernel
theorem dX10_next_148 : decode cX10_next 148 = .ok (.i2l, 1) := by decide +kernel
theorem dX10_next_149 : decode cX10_next 149 = .ok (.ldc2_w 97, 3) := by decide +kernel
theorem dX10_next_152 : decode cX10_next 152 = .ok (.ldc2_w 99, 3) := by decide +kernel
theorem dX10_next_155 : decode cX10_next 155 = .ok (.invokestatic 67, 3) := by decide +kernel
theorem dX10_next_158 : decode cX10_next 158 = .ok (.ifCond .eq 59, 3) := by decide +kernel
theorem dX10_next_161 : decode cX10_next 161 = .ok (.aload_n 0, 1) := by decide +kernel
theorem dX10_next_162 : decode cX10_next 162 = .ok (.aload_n 0, 1) := by decide +kernel
theorem dX10_next_163 : decode cX10_next 163 = .ok (.getfield 80, 3) := by decide +kernel
theorem dX10_next_166 : decode cX10_next 166 = .ok (.aload_n 0, 1) := by decide +kernel
theorem dX10_next_167 : decode cX10_next 167 = .ok (.getfield 74, 3) := by decide +kernel
theorem dX10_next_170 : decode cX10_next 170 = .ok (.isub, 1) := by decide +kernel
theorem dX10_next_171 : decode cX10_next 171 = .ok (.iconst 3, 1) := by decide +kernel
theorem dX10_next_172 : decode cX10_next 172 = .ok (.if_icmp .ge 25, 3) := by decide +kernel
theorem dX10_next_175 : decode cX10_next 175 = .ok (.bipush 10, 2) := by decide +kernel
theorem dX10_next_177 : decode cX10_next 177 = .ok (.aload_n 0, 1) := by decide +kernel
theorem dX10_next_178 : decode cX10_next 178 = .ok (.getfield 87, 3) := by decide +kernel
theorem dX10_next_181 : decode cX10_next 181 = .ok (.imul, 1) := by decide +kernel
theorem dX10_next_182 : decode cX10_next 182 = .ok (.aload_n 0, 1) := by decide +kernel
theorem dX10_next_183 : decode cX10_next 183 = .ok (.aload_n 0, 1) := by decide +kernel
theorem dX10_next_184 : decode cX10_next 184 = .ok (.getfield 80, 3) := by decide +kernel
theorem dX10_next_187 : decode cX10_next 187 = .ok (.invokevirtual 83, 3) := by decide +kernel
theorem dX10_next_190 : decode cX10_next 190 = .ok (.iadd, 1) := by decide +kernel
theorem dX10_next_191 : decode cX10_next 191 = .ok (.bipush 48, 2) := by decide +kernel
theorem dX10_next_193 : decode cX10_next 193 = .ok (.isub, 1) := by decide +kernel
theorem dX10_next_194 : decode cX10_next 194 = .ok (.goto 7, 3) := by decide +kernel
theorem dX10_next_197 : decode cX10_next 197 = .ok (.aload_n 0, 1) := by decide +kernel
theorem dX10_next_198 : decode cX10_next 198 = .ok (.getfield 87, 3) := by decide +kernel
theorem dX10_next_201 : decode cX10_next 201 = .ok (.putfield 87, 3) := by decide +kernel
theorem dX10_next_204 : decode cX10_next 204 = .ok (.aload_n 0, 1) := by decide +kernel
theorem dX10_next_205 : decode cX10_next 205 = .ok (.dup, 1) := by decide +kernel
theorem dX10_next_206 : decode cX10_next 206 = .ok (.getfield 80, 3) := by decide +kernel
theorem dX10_next_209 : decode cX10_next 209 = .ok (.iconst 1, 1) := by decide +kernel
theorem dX10_next_210 : decode cX10_next 210 = .ok (.iadd, 1) := by decide +kernel
theorem dX10_next_211 : decode cX10_next 211 = .ok (.putfield 80, 3) := by decide +kernel
theorem dX10_next_214 : decode cX10_next 214 = .ok (.goto (-74), 3) := by decide +kernel
theorem dX10_next_217 : decode cX10_next 217 = .ok (.aload_n 0, 1) := by decide +kernel
theorem dX10_next_218 : decode cX10_next 218 = .ok (.iconst 2, 1) := by decide +kernel
theorem dX10_next_219 : decode cX10_next 219 = .ok (.putfield 90, 3) := by decide +kernel
theorem dX10_next_222 : decode cX10_next 222 = .ok (.aload_n 0, 1) := by decide +kernel
theorem dX10_next_223 : decode cX10_next 223 = .ok (.getfield 80, 3) := by decide +kernel
theorem dX10_next_226 : decode cX10_next 226 = .ok (.aload_n 0, 1) := by decide +kernel
theorem dX10_next_227 : decode cX10_next 227 = .ok (.getfield 74, 3) := by decide +kernel
theorem dX10_next_230 : decode cX10_next 230 = .ok (.isub, 1) := by decide +kernel
theorem dX10_next_231 : decode cX10_next 231 = .ok (.iconst 3, 1) := by decide +kernel
theorem dX10_next_232 : decode cX10_next 232 = .ok (.if_icmp .le 37, 3) := by decide +kernel
theorem dX10_next_235 : decode cX10_next 235 = .ok (.aload_n 0, 1) := by decide +kernel
theorem dX10_next_236 : decode cX10_next 236 = .ok (.iconst 1, 1) := by decide +kernel
theorem dX10_next_237 : decode cX10_next 237 = .ok (.invokevirtual 101, 3) := by decide +kernel
theorem dX10_next_240 : decode cX10_next 240 = .ok (.goto 29, 3) := by decide +kernel
theorem dX10_next_243 : decode cX10_next 243 = .ok (.aload_n 0, 1) := by decide +kernel
theorem dX10_next_244 : decode cX10_next 244 = .ok (.iconst 3, 1) := by decide +kernel
theorem dX10_next_245 : decode cX10_next 245 = .ok (.putfield 90, 3) := by decide +kernel
theorem dX10_next_248 : decode cX10_next 248 = .ok (.aload_n 0, 1) := by decide +kernel
theorem dX10_next_249 : decode cX10_next 249 = .ok (.dup, 1) := by decide +kernel
theorem dX10_next_250 : decode cX10_next 250 = .ok (.getfield 80, 3) := by decide +kernel
theorem dX10_next_253 : decode cX10_next 253 = .ok (.iconst 1, 1) := by decide +kernel
theorem dX10_next_254 : decode cX10_next 254 = .ok (.iadd, 1) := by decide +kernel
theorem dX10_next_255 : decode cX10_next 255 = .ok (.putfield 80, 3) := by decide +kernel
theorem dX10_next_258 : decode cX10_next 258 = .ok (.iload_n 1, 1) := by decide +kernel
theorem dX10_next_259 : decode cX10_next 259 = .ok (.bipush 59, 2) := by decide +kernel
theorem dX10_next_261 : decode cX10_next 261 = .ok (.if_icmp .eq 8, 3) := by decide +kernel
theorem dX10_next_264 : decode cX10_next 264 = .ok (.aload_n 0, 1) := by decide +kernel
theorem dX10_next_265 : decode cX10_next 265 = .ok (.iconst 1, 1) := by decide +kernel
theorem dX10_next_266 : decode cX10_next 266 = .ok (.invokevirtual 101, 3) := by decide +kernel
theorem dX10_next_269 : decode cX10_next 269 = .ok (.return_, 1) := by decide +kernel
set_option maxRecDepth 20000 in
theorem ggX10_nameHere_X10_byteAt : GoodIn wsX10_nameHere wsX10_byteAt := goodIn_r _ [10, 11, 12, 13, 14, 15, 16, 17, 18, 19, 20, 21, 22, 23, 24, 25, 26, 27, 28, 29, 30, 31, 32, 33, 34, 35, 36, 37, 38, 39, 40, 41, 42, 43, 44] (by decide +kernel) (by decide +kernel)
set_option maxRecDepth 20000 in
theorem gX10_nameHere_X10_byteAt : GoodIn wsX10_nameHere (wsV RX10 83 RX10 yX10_byteAt wsX10_byteAt) := goodIn_app (goodIn_of _ (by decide +kernel)) ggX10_nameHere_X10_byteAt
theorem dX10_nameHere_0 : decode cX10_nameHere 0 = .ok (.iconst 0, 1) := by decide +kernel
theorem dX10_nameHere_1 : decode cX10_nameHere 1 = .ok (.istore_n 1, 1) := by decide +kernel
theorem dX10_nameHere_2 : decode cX10_nameHere 2 = .ok (.iload_n 1, 1) := by decide +kernel
theorem dX10_nameHere_3 : decode cX10_nameHere 3 = .ok (.bipush 7, 2) := by decide +kernel
theorem dX10_nameHere_5 : decode cX10_nameHere 5 = .ok (.if_icmp .ge 113, 3) := by decide +kernel
theorem dX10_nameHere_8 : decode cX10_nameHere 8 = .ok (.aload_n 0, 1) := by decide +kernel
theorem dX10_nameHere_9 : decode cX10_nameHere 9 = .ok (.getfield 90, 3) := by decide +kernel
theorem dX10_nameHere_12 : decode cX10_nameHere 12 = .ok (.iconst 1, 1) := by decide +kernel
theorem dX10_nameHere_13 : decode cX10_nameHere 13 = .ok (.if_icmp .ne 34, 3) := by decide +kernel
theorem dX10_nameHere_16 : decode cX10_nameHere 16 = .ok (.aload_n 0, 1) := by decide +kernel
theorem dX10_nameHere_17 : decode cX10_nameHere 17 = .ok (.getfield 80, 3) := by decide +kernel
theorem dX10_nameHere_20 : decode cX10_nameHere 20 = .ok (.aload_n 0, 1) := by decide +kernel
theorem dX10_nameHere_21 : decode cX10_nameHere 21 = .ok (.getfield 74, 3) := by decide +kernel
theorem dX10_nameHere_24 : decode cX10_nameHere 24 = .ok (.isub, 1) := by decide +kernel
theorem dX10_nameHere_25 : decode cX10_nameHere 25 = .ok (.aload_n 0, 1) := by decide +kernel
theorem dX10_nameHere_26 : decode cX10_nameHere 26 = .ok (.getfield 13, 3) := by decide +kernel
theorem dX10_nameHere_29 : decode cX10_nameHere 29 = .ok (.iload_n 1, 1) := by decide +kernel
theorem dX10_nameHere_30 : decode cX10_nameHere 30 = .ok (.iconst 1, 1) := by decide +kernel
theorem dX10_nameHere_31 : decode cX10_nameHere 31 = .ok (.iadd, 1) := by decide +kernel
theorem dX10_nameHere_32 : decode cX10_nameHere 32 = .ok (.iaload, 1) := by decide +kernel
theorem dX10_nameHere_33 : decode cX10_nameHere 33 = .ok (.aload_n 0, 1) := by decide +kernel
theorem dX10_nameHere_34 : decode cX10_nameHere 34 = .ok (.getfield 13, 3) := by decide +kernel
theorem dX10_nameHere_37 : decode cX10_nameHere 37 = .ok (.iload_n 1, 1) := by decide +kernel
theorem dX10_nameHere_38 : decode cX10_nameHere 38 = .ok (.iaload, 1) := by decide +kernel
theorem dX10_nameHere_39 : decode cX10_nameHere 39 = .ok (.isub, 1) := by decide +kernel
theorem dX10_nameHere_40 : decode cX10_nameHere 40 = .ok (.if_icmp .ne 7, 3) := by decide +kernel
theorem dX10_nameHere_43 : decode cX10_nameHere 43 = .ok (.iconst 1, 1) := by decide +kernel
theorem dX10_nameHere_44 : decode cX10_nameHere 44 = .ok (.goto 4, 3) := by decide +kernel
theorem dX10_nameHere_47 : decode cX10_nameHere 47 = .ok (.iconst 0, 1) := by decide +kernel
theorem dX10_nameHere_48 : decode cX10_nameHere 48 = .ok (.istore_n 2, 1) := by decide +kernel
theorem dX10_nameHere_49 : decode cX10_nameHere 49 = .ok (.iconst 0, 1) := by decide +kernel
theorem dX10_nameHere_50 : decode cX10_nameHere 50 = .ok (.istore_n 3, 1) := by decide +kernel
theorem dX10_nameHere_51 : decode cX10_nameHere 51 = .ok (.iload_n 2, 1) := by decide +kernel
theorem dX10_nameHere_52 : decode cX10_nameHere 52 = .ok (.ifCond .eq 54, 3) := by decide +kernel
theorem dX10_nameHere_55 : decode cX10_nameHere 55 = .ok (.iload_n 3, 1) := by decide +kernel
theorem dX10_nameHere_56 : decode cX10_nameHere 56 = .ok (.aload_n 0, 1) := by decide +kernel
theorem dX10_nameHere_57 : decode cX10_nameHere 57 = .ok (.getfield 80, 3) := by decide +kernel
theorem dX10_nameHere_60 : decode cX10_nameHere 60 = .ok (.aload_n 0, 1) := by decide +kernel
theorem dX10_nameHere_61 : decode cX10_nameHere 61 = .ok (.getfield 74, 3) := by decide +kernel
theorem dX10_nameHere_64 : decode cX10_nameHere 64 = .ok (.isub, 1) := by decide +kernel
theorem dX10_nameHere_65 : decode cX10_nameHere 65 = .ok (.if_icmp .ge 41, 3) := by decide +kernel
theorem dX10_nameHere_68 : decode cX10_nameHere 68 = .ok (.aload_n 0, 1) := by decide +kernel
theorem dX10_nameHere_69 : decode cX10_nameHere 69 = .ok (.aload_n 0, 1) := by decide +kernel
theorem dX10_nameHere_70 : decode cX10_nameHere 70 = .ok (.getfield 74, 3) := by decide +kernel
theorem dX10_nameHere_73 : decode cX10_nameHere 73 = .ok (.iload_n 3, 1) := by decide +kernel
theorem dX10_nameHere_74 : decode cX10_nameHere 74 = .ok (.iadd, 1) := by decide +kernel
theorem dX10_nameHere_75 : decode cX10_nameHere 75 = .ok (.invokevirtual 83, 3) := by decide +kernel
theorem dX10_nameHere_78 : decode cX10_nameHere 78 = .ok (.aload_n 0, 1) := by decide +kernel
theorem dX10_nameHere_79 : decode cX10_nameHere 79 = .ok (.getfield 16, 3) := by decide +kernel
theorem dX10_nameHere_82 : decode cX10_nameHere 82 = .ok (.aload_n 0, 1) := by decide +kernel
theorem dX10_nameHere_83 : decode cX10_nameHere 83 = .ok (.getfield 13, 3) := by decide +kernel
theorem dX10_nameHere_86 : decode cX10_nameHere 86 = .ok (.iload_n 1, 1) := by decide +kernel
theorem dX10_nameHere_87 : decode cX10_nameHere 87 = .ok (.iaload, 1) := by decide +kernel
theorem dX10_nameHere_88 : decode cX10_nameHere 88 = .ok (.iload_n 3, 1) := by decide +kernel
theorem dX10_nameHere_89 : decode cX10_nameHere 89 = .ok (.iadd, 1) := by decide +kernel
theorem dX10_nameHere_90 : decode cX10_nameHere 90 = .ok (.iaload, 1) := by decide +kernel
theorem dX10_nameHere_91 : decode cX10_nameHere 91 = .ok (.if_icmp .ne 7, 3) := by decide +kernel
theorem dX10_nameHere_94 : decode cX10_nameHere 94 = .ok (.iconst 1, 1) := by decide +kernel
theorem dX10_nameHere_95 : decode cX10_nameHere 95 = .ok (.goto 4, 3) := by decide +kernel
theorem dX10_nameHere_98 : decode cX10_nameHere 98 = .ok (.iconst 0, 1) := by decide +kernel
theorem dX10_nameHere_99 : decode cX10_nameHere 99 = .ok (.istore_n 2, 1) := by decide +kernel
theorem dX10_nameHere_100 : decode cX10_nameHere 100 = .ok (.iinc 3 1, 3) := by decide +kernel
theorem dX10_nameHere_103 : decode cX10_nameHere 103 = .ok (.goto (-52), 3) := by decide +kernel
theorem dX10_nameHere_106 : decode cX10_nameHere 106 = .ok (.iload_n 2, 1) := by decide +kernel
theorem dX10_nameHere_107 : decode cX10_nameHere 107 = .ok (.ifCond .eq 5, 3) := by decide +kernel
theorem dX10_nameHere_110 : decode cX10_nameHere 110 = .ok (.iload_n 1, 1) := by decide +kernel
theorem dX10_nameHere_111 : decode cX10_nameHere 111 = .ok (.ireturn, 1) := by decide +kernel
theorem dX10_nameHere_112 : decode cX10_nameHere 112 = .ok (.iinc 1 1, 3) := by decide +kernel
theorem dX10_nameHere_115 : decode cX10_nameHere 115 = .ok (.goto (-113), 3) := by decide +kernel
theorem dX10_nameHere_118 : decode cX10_nameHere 118 = .ok (.bipush (-4), 2) := by decide +kernel
theorem dX10_nameHere_120 : decode cX10_nameHere 120 = .ok (.ireturn, 1) := by decide +kernel
set_option maxRecDepth 20000 in
theorem ggX10_number_X10_fails : GoodIn wsX10_number wsX10_fails := goodIn_r _ [9, 1, 10, 11, 15, 16, 17, 18, 19, 20, 21, 22, 23, 24, 25, 26, 27, 28, 29, 30, 31, 32, 33, 34, 35, 36, 37, 38, 39, 40, 41, 42, 43, 44, 45, 46] (by decide +kernel) (by decide +kernel)
set_option maxRecDepth 20000 in
theorem gX10_number_X10_fails : GoodIn wsX10_number (wsV RX10 101 RX10 yX10_fails wsX10_fails) := goodIn_app (goodIn_of _ (by decide +kernel)) ggX10_number_X10_fails
set_option maxRecDepth 20000 in
theorem ggX10_number_X10_in : GoodIn wsX10_number wsX10_in := goodIn_r _ [14] (by decide +kernel) (by decide +kernel)
set_option maxRecDepth 20000 in
theorem gX10_number_X10_in : GoodIn wsX10_number (va_wsS RX10 67 yX10_in wsX10_in) := goodIn_app (goodIn_of _ (by decide +kernel)) ggX10_number_X10_in
theorem dX10_number_0 : decode cX10_number 0 = .ok (.aload_n 0, 1) := by decide +kernel
theorem dX10_number_1 : decode cX10_number 1 = .ok (.getfield 71, 3) := by decide +kernel
theorem dX10_number_4 : decode cX10_number 4 = .ok (.ifCond .ne 16, 3) := by decide +kernel
theorem dX10_number_7 : decode cX10_number 7 = .ok (.aload_n 0, 1) := by decide +kernel
theorem dX10_number_8 : decode cX10_number 8 = .ok (.getfield 90, 3) := by decide +kernel
theorem dX10_number_11 : decode cX10_number 11 = .ok (.iconst 2, 1) := by decide +kernel
theorem dX10_number_12 : decode cX10_number 12 = .ok (.if_icmp .eq 8, 3) := by decide +kernel
theorem dX10_number_15 : decode cX10_number 15 = .ok (.aload_n 0, 1) := by decide +kernel
theorem dX10_number_16 : decode cX10_number 16 = .ok (.iconst 2, 1) := by decide +kernel
theorem dX10_number_17 : decode cX10_number 17 = .ok (.invokevirtual 101, 3) := by decide +kernel
theorem dX10_number_20 : decode cX10_number 20 = .ok (.aload_n 0, 1) := by decide +kernel
theorem dX10_number_21 : decode cX10_number 21 = .ok (.getfield 71, 3) := by decide +kernel
theorem dX10_number_24 : decode cX10_number 24 = .ok (.ifCond .ne 23, 3) := by decide +kernel
theorem dX10_number_27 : decode cX10_number 27 = .ok (.aload_n 0, 1) := by decide +kernel
theorem dX10_number_28 : decode cX10_number 28 = .ok (.getfield 87, 3) := by decide +kernel
theorem dX10_number_31 : decode cX10_number 31 = .ok (.i2l, 1) := by decide +kernel
theorem dX10_number_32 : decode cX10_number 32 = .ok (.iload_n 2, 1) := by decide +kernel
theorem dX10_number_33 : decode cX10_number 33 = .ok (.i2l, 1) := by decide +kernel
theorem dX10_number_34 : decode cX10_number 34 = .ok (.iload_n 3, 1) := by decide +kernel
theorem dX10_number_35 : decode cX10_number 35 = .ok (.i2l, 1) := by decide +kernel
theorem dX10_number_36 : decode cX10_number 36 = .ok (.invokestatic 67, 3) := by decide +kernel
theorem dX10_number_39 : decode cX10_number 39 = .ok (.ifCond .ne 8, 3) := by decide +kernel
theorem dX10_number_42 : decode cX10_number 42 = .ok (.aload_n 0, 1) := by decide +kernel
theorem dX10_number_43 : decode cX10_number 43 = .ok (.iconst 3, 1) := by decide +kernel
theorem dX10_number_44 : decode cX10_number 44 = .ok (.invokevirtual 101, 3) := by decide +kernel
theorem dX10_number_47 : decode cX10_number 47 = .ok (.aload_n 0, 1) := by decide +kernel
theorem dX10_number_48 : decode cX10_number 48 = .ok (.getfield 71, 3) := by decide +kernel
theorem dX10_number_51 : decode cX10_number 51 = .ok (.ifCond .ne 13, 3) := by decide +kernel
theorem dX10_number_54 : decode cX10_number 54 = .ok (.aload_n 0, 1) := by decide +kernel
theorem dX10_number_55 : decode cX10_number 55 = .ok (.getfield 25, 3) := by decide +kernel
theorem dX10_number_58 : decode cX10_number 58 = .ok (.iload_n 1, 1) := by decide +kernel
theorem dX10_number_59 : decode cX10_number 59 = .ok (.aload_n 0, 1) := by decide +kernel
theorem dX10_number_60 : decode cX10_number 60 = .ok (.getfield 87, 3) := by decide +kernel
theorem dX10_number_63 : decode cX10_number 63 = .ok (.iastore, 1) := by decide +kernel
theorem dX10_number_64 : decode cX10_number 64 = .ok (.return_, 1) := by decide +kernel
set_option maxRecDepth 20000 in
theorem ggX10_once_X10_fails : GoodIn wsX10_once wsX10_fails := goodIn_r _ [7, 1, 8, 9, 10, 11, 12, 13, 14, 15, 16, 17, 18, 19, 20, 21, 22, 23, 24, 25, 26, 27, 28, 29, 30, 31, 32, 33, 34, 35, 36, 37, 38, 39, 40, 41] (by decide +kernel) (by decide +kernel)
set_option maxRecDepth 20000 in
theorem gX10_once_X10_fails : GoodIn wsX10_once (wsV RX10 101 RX10 yX10_fails wsX10_fails) := goodIn_app (goodIn_of _ (by decide +kernel)) ggX10_once_X10_fails
theorem dX10_once_0 : decode cX10_once 0 = .ok (.aload_n 0, 1) := by decide +kernel
theorem dX10_once_1 : decode cX10_once 1 = .ok (.getfield 71, 3) := by decide +kernel
theorem dX10_once_4 : decode cX10_once 4 = .ok (.ifCond .ne 20, 3) := by decide +kernel
theorem dX10_once_7 : decode cX10_once 7 = .ok (.aload_n 0, 1) := by decide +kernel
theorem dX10_once_8 : decode cX10_once 8 = .ok (.getfield 105, 3) := by decide +kernel
theorem dX10_once_11 : decode cX10_once 11 = .ok (.iload_n 1, 1) := by decide +kernel
theorem dX10_once_12 : decode cX10_once 12 = .ok (.ishr, 1) := by decide +kernel
theorem dX10_once_13 : decode cX10_once 13 = .ok (.iconst 1, 1) := by decide +kernel
theorem dX10_once_14 : decode cX10_once 14 = .ok (.iand, 1) := by decide +kernel
theorem dX10_once_15 : decode cX10_once 15 = .ok (.iconst 1, 1) := by decide +kernel
theorem dX10_once_16 : decode cX10_once 16 = .ok (.if_icmp .ne 8, 3) := by decide +kernel
theorem dX10_once_19 : decode cX10_once 19 = .ok (.aload_n 0, 1) := by decide +kernel
theorem dX10_once_20 : decode cX10_once 20 = .ok (.iconst 4, 1) := by decide +kernel
theorem dX10_once_21 : decode cX10_once 21 = .ok (.invokevirtual 101, 3) := by decide +kernel
theorem dX10_once_24 : decode cX10_once 24 = .ok (.aload_n 0, 1) := by decide +kernel
theorem dX10_once_25 : decode cX10_once 25 = .ok (.dup, 1) := by decide +kernel
theorem dX10_once_26 : decode cX10_once 26 = .ok (.getfield 105, 3) := by decide +kernel
theorem dX10_once_29 : decode cX10_once 29 = .ok (.iconst 1, 1) := by decide +kernel
theorem dX10_once_30 : decode cX10_once 30 = .ok (.iload_n 1, 1) := by decide +kernel
theorem dX10_once_31 : decode cX10_once 31 = .ok (.ishl, 1) := by decide +kernel
theorem dX10_once_32 : decode cX10_once 32 = .ok (.ior, 1) := by decide +kernel
theorem dX10_once_33 : decode cX10_once 33 = .ok (.putfield 105, 3) := by decide +kernel
theorem dX10_once_36 : decode cX10_once 36 = .ok (.return_, 1) := by decide +kernel
set_option maxRecDepth 20000 in
theorem ggX10_readLine_X10_nameHere : GoodIn wsX10_readLine wsX10_nameHere := goodIn_r _ [12, 2, 3, 4, 13, 14, 15, 16, 17, 11, 18, 19, 20, 46, 47, 48, 49, 50, 51, 52, 53, 54, 55, 56, 57, 58, 59, 60, 61, 62, 63, 64, 65, 66, 67, 68, 69, 70, 71, 72, 73, 74, 75, 76, 77] (by decide +kernel) (by decide +kernel)
set_option maxRecDepth 20000 in
theorem gX10_readLine_X10_nameHere : GoodIn wsX10_readLine (wsV RX10 108 RX10 yX10_nameHere wsX10_nameHere) := goodIn_app (goodIn_of _ (by decide +kernel)) ggX10_readLine_X10_nameHere
set_option maxRecDepth 20000 in
theorem ggX10_readLine_X10_fails : GoodIn wsX10_readLine wsX10_fails := goodIn_r _ [24, 1, 4, 25, 46, 47, 48, 49, 50, 51, 52, 53, 54, 55, 56, 57, 58, 59, 60, 61, 62, 63, 64, 65, 66, 67, 68, 69, 70, 71, 72, 73, 74, 75, 76, 77] (by decide +kernel) (by decide +kernel)
set_option maxRecDepth 20000 in
theorem gX10_readLine_X10_fails : GoodIn wsX10_readLine (wsV RX10 101 RX10 yX10_fails wsX10_fails) := goodIn_app (goodIn_of _ (by decide +kernel)) ggX10_readLine_X10_fails
set_option maxRecDepth 20000 in
theorem ggX10_readLine_X10_next : GoodIn wsX10_readLine wsX10_next := goodIn_r _ [29, 1, 3, 4, 30, 2, 5, 31, 32, 33, 15, 16, 17, 11, 18, 19, 20, 34, 35, 36, 21, 22, 23, 24, 25, 46, 47, 48, 49, 50, 51, 52, 53, 54, 55, 56, 57, 58, 59, 60, 61, 62, 63, 64, 65, 66, 67, 68, 69, 70, 71, 72, 73, 74, 75, 76, 77] (by decide +kernel) (by decide +kernel)
set_option maxRecDepth 20000 in
theorem gX10_readLine_X10_next : GoodIn wsX10_readLine (wsV RX10 112 RX10 yX10_next wsX10_next) := goodIn_app (goodIn_of _ (by decide +kernel)) ggX10_readLine_X10_next
set_option maxRecDepth 20000 in
theorem ggX10_readLine_X10_byteAt : GoodIn wsX10_readLine wsX10_byteAt := goodIn_r _ [18, 19, 20, 46, 47, 48, 49, 50, 51, 52, 53, 54, 55, 56, 57, 58, 59, 60, 61, 62, 63, 64, 65, 66, 67, 68, 69, 70, 71, 72, 73, 74, 75, 76, 77] (by decide +kernel) (by decide +kernel)
set_option maxRecDepth 20000 in
theorem gX10_readLine_X10_byteAt : GoodIn wsX10_readLine (wsV RX10 83 RX10 yX10_byteAt wsX10_byteAt) := goodIn_app (goodIn_of _ (by decide +kernel)) ggX10_readLine_X10_byteAt
set_option maxRecDepth 20000 in
theorem ggX10_readLine_X10_in : GoodIn wsX10_readLine wsX10_in := goodIn_r _ [36] (by decide +kernel) (by decide +kernel)
set_option maxRecDepth 20000 in
theorem gX10_readLine_X10_in : GoodIn wsX10_readLine (va_wsS RX10 67 yX10_in wsX10_in) := goodIn_app (goodIn_of _ (by decide +kernel)) ggX10_readLine_X10_in
set_option maxRecDepth 20000 in
theorem ggX10_readLine_X10_once : GoodIn wsX10_readLine wsX10_once := goodIn_r _ [40, 1, 41, 21, 22, 23, 11, 24, 4, 25, 46, 47, 48, 49, 50, 51, 52, 53, 54, 55, 56, 57, 58, 59, 60, 61, 62, 63, 64, 65, 66, 67, 68, 69, 70, 71, 72, 73, 74, 75, 76, 77] (by decide +kernel) (by decide +kernel)
set_option maxRecDepth 20000 in
theorem gX10_readLine_X10_once : GoodIn wsX10_readLine (wsV RX10 117 RX10 yX10_once wsX10_once) := goodIn_app (goodIn_of _ (by decide +kernel)) ggX10_readLine_X10_once
set_option maxRecDepth 20000 in
theorem ggX10_readLine_X10_number : GoodIn wsX10_readLine wsX10_number := goodIn_r _ [45, 1, 2, 30, 7, 21, 22, 23, 11, 24, 4, 25, 34, 35, 36, 46, 47, 48, 49, 50, 51, 52, 53, 54, 55, 56, 57, 58, 59, 60, 61, 62, 63, 64, 65, 66, 67, 68, 69, 70, 71, 72, 73, 74, 75, 76, 77] (by decide +kernel) (by decide +kernel)
set_option maxRecDepth 20000 in
theorem gX10_readLine_X10_number : GoodIn wsX10_readLine (wsV RX10 120 RX10 yX10_number wsX10_number) := goodIn_app (goodIn_of _ (by decide +kernel)) ggX10_readLine_X10_number
theorem dX10_readLine_0 : decode cX10_readLine 0 = .ok (.aload_n 0, 1) := by decide +kernel
theorem dX10_readLine_1 : decode cX10_readLine 1 = .ok (.invokevirtual 108, 3) := by decide +kernel
theorem dX10_readLine_4 : decode cX10_readLine 4 = .ok (.istore_n 1, 1) := by decide +kernel
theorem dX10_readLine_5 : decode cX10_readLine 5 = .ok (.iload_n 1, 1) := by decide +kernel
theorem dX10_readLine_6 : decode cX10_readLine 6 = .ok (.bipush (-4), 2) := by decide +kernel
theorem dX10_readLine_8 : decode cX10_readLine 8 = .ok (.if_icmp .ne 9, 3) := by decide +kernel
theorem dX10_readLine_11 : decode cX10_readLine 11 = .ok (.aload_n 0, 1) := by decide +kernel
theorem dX10_readLine_12 : decode cX10_readLine 12 = .ok (.iconst 2, 1) := by decide +kernel
theorem dX10_readLine_13 : decode cX10_readLine 13 = .ok (.invokevirtual 101, 3) := by decide +kernel
theorem dX10_readLine_16 : decode cX10_readLine 16 = .ok (.return_, 1) := by decide +kernel
theorem dX10_readLine_17 : decode cX10_readLine 17 = .ok (.iload_n 1, 1) := by decide +kernel
theorem dX10_readLine_18 : decode cX10_readLine 18 = .ok (.iconst 3, 1) := by decide +kernel
theorem dX10_readLine_19 : decode cX10_readLine 19 = .ok (.if_icmp .ge 130, 3) := by decide +kernel
theorem dX10_readLine_22 : decode cX10_readLine 22 = .ok (.aload_n 0, 1) := by decide +kernel
theorem dX10_readLine_23 : decode cX10_readLine 23 = .ok (.invokevirtual 112, 3) := by decide +kernel
theorem dX10_readLine_26 : decode cX10_readLine 26 = .ok (.aload_n 0, 1) := by decide +kernel
theorem dX10_readLine_27 : decode cX10_readLine 27 = .ok (.getfield 71, 3) := by decide +kernel
theorem dX10_readLine_30 : decode cX10_readLine 30 = .ok (.ifCond .ne 50, 3) := by decide +kernel
theorem dX10_readLine_33 : decode cX10_readLine 33 = .ok (.aload_n 0, 1) := by decide +kernel
theorem dX10_readLine_34 : decode cX10_readLine 34 = .ok (.getfield 90, 3) := by decide +kernel
theorem dX10_readLine_37 : decode cX10_readLine 37 = .ok (.iconst 1, 1) := by decide +kernel
theorem dX10_readLine_38 : decode cX10_readLine 38 = .ok (.if_icmp .ne 37, 3) := by decide +kernel
theorem dX10_readLine_41 : decode cX10_readLine 41 = .ok (.aload_n 0, 1) := by decide +kernel
theorem dX10_readLine_42 : decode cX10_readLine 42 = .ok (.getfield 80, 3) := by decide +kernel
theorem dX10_readLine_45 : decode cX10_readLine 45 = .ok (.aload_n 0, 1) := by decide +kernel
theorem dX10_readLine_46 : decode cX10_readLine 46 = .ok (.getfield 74, 3) := by decide +kernel
theorem dX10_readLine_49 : decode cX10_readLine 49 = .ok (.isub, 1) := by decide +kernel
theorem dX10_readLine_50 : decode cX10_readLine 50 = .ok (.iconst 1, 1) := by decide +kernel
theorem dX10_readLine_51 : decode cX10_readLine 51 = .ok (.if_icmp .ne 24, 3) := by decide +kernel
theorem dX10_readLine_54 : decode cX10_readLine 54 = .ok (.aload_n 0, 1) := by decide +kernel
theorem dX10_readLine_55 : decode cX10_readLine 55 = .ok (.aload_n 0, 1) := by decide +kernel
theorem dX10_readLine_56 : decode cX10_readLine 56 = .ok (.getfield 74, 3) := by decide +kernel
theorem dX10_readLine_59 : decode cX10_readLine 59 = .ok (.invokevirtual 83, 3) := by decide +kernel
theorem dX10_readLine_62 : decode cX10_readLine 62 = .ok (.i2l, 1) := by decide +kernel
theorem dX10_readLine_63 : decode cX10_readLine 63 = .ok (.ldc2_w 93, 3) := by decide +kernel
theorem dX10_readLine_66 : decode cX10_readLine 66 = .ok (.ldc2_w 115, 3) := by decide +kernel
theorem dX10_readLine_69 : decode cX10_readLine 69 = .ok (.invokestatic 67, 3) := by decide +kernel
theorem dX10_readLine_72 : decode cX10_readLine 72 = .ok (.ifCond .ne 8, 3) := by decide +kernel
theorem dX10_readLine_75 : decode cX10_readLine 75 = .ok (.aload_n 0, 1) := by decide +kernel
theorem dX10_readLine_76 : decode cX10_readLine 76 = .ok (.iconst 2, 1) := by decide +kernel
theorem dX10_readLine_77 : decode cX10_readLine 77 = .ok (.invokevirtual 101, 3) := by decide +kernel
theorem dX10_readLine_80 : decode cX10_readLine 80 = .ok (.aload_n 0, 1) := by decide +kernel
theorem dX10_readLine_81 : decode cX10_readLine 81 = .ok (.getfield 71, 3) := by decide +kernel
theorem dX10_readLine_84 : decode cX10_readLine 84 = .ok (.ifCond .ne 21, 3) := by decide +kernel
theorem dX10_readLine_87 : decode cX10_readLine 87 = .ok (.iconst 4, 1) := by decide +kernel
theorem dX10_readLine_88 : decode cX10_readLine 88 = .ok (.iload_n 1, 1) := by decide +kernel
theorem dX10_readLine_89 : decode cX10_readLine 89 = .ok (.imul, 1) := by decide +kernel
theorem dX10_readLine_90 : decode cX10_readLine 90 = .ok (.aload_n 0, 1) := by decide +kernel
theorem dX10_readLine_91 : decode cX10_readLine 91 = .ok (.aload_n 0, 1) := by decide +kernel
theorem dX10_readLine_92 : decode cX10_readLine 92 = .ok (.getfield 74, 3) := by decide +kernel
theorem dX10_readLine_95 : decode cX10_readLine 95 = .ok (.invokevirtual 83, 3) := by decide +kernel
theorem dX10_readLine_98 : decode cX10_readLine 98 = .ok (.iadd, 1) := by decide +kernel
theorem dX10_readLine_99 : decode cX10_readLine 99 = .ok (.bipush 97, 2) := by decide +kernel
theorem dX10_readLine_101 : decode cX10_readLine 101 = .ok (.isub, 1) := by decide +kernel
theorem dX10_readLine_102 : decode cX10_readLine 102 = .ok (.goto 4, 3) := by decide +kernel
theorem dX10_readLine_105 : decode cX10_readLine 105 = .ok (.iconst 0, 1) := by decide +kernel
theorem dX10_readLine_106 : decode cX10_readLine 106 = .ok (.istore_n 2, 1) := by decide +kernel
theorem dX10_readLine_107 : decode cX10_readLine 107 = .ok (.aload_n 0, 1) := by decide +kernel
theorem dX10_readLine_108 : decode cX10_readLine 108 = .ok (.iload_n 2, 1) := by decide +kernel
theorem dX10_readLine_109 : decode cX10_readLine 109 = .ok (.invokevirtual 117, 3) := by decide +kernel
theorem dX10_readLine_112 : decode cX10_readLine 112 = .ok (.aload_n 0, 1) := by decide +kernel
theorem dX10_readLine_113 : decode cX10_readLine 113 = .ok (.invokevirtual 112, 3) := by decide +kernel
theorem dX10_readLine_116 : decode cX10_readLine 116 = .ok (.aload_n 0, 1) := by decide +kernel
theorem dX10_readLine_117 : decode cX10_readLine 117 = .ok (.iload_n 2, 1) := by decide +kernel
theorem dX10_readLine_118 : decode cX10_readLine 118 = .ok (.iload_n 1, 1) := by decide +kernel
theorem dX10_readLine_119 : decode cX10_readLine 119 = .ok (.ifCond .ne 7, 3) := by decide +kernel
theorem dX10_readLine_122 : decode cX10_readLine 122 = .ok (.iconst 1, 1) := by decide +kernel
theorem dX10_readLine_123 : decode cX10_readLine 123 = .ok (.goto 4, 3) := by decide +kernel
theorem dX10_readLine_126 : decode cX10_readLine 126 = .ok (.iconst 0, 1) := by decide +kernel
theorem dX10_readLine_127 : decode cX10_readLine 127 = .ok (.iload_n 1, 1) := by decide +kernel
theorem dX10_readLine_128 : decode cX10_readLine 128 = .ok (.iconst 1, 1) := by decide +kernel
theorem dX10_readLine_129 : decode cX10_readLine 129 = .ok (.if_icmp .ne 8, 3) := by decide +kernel
theorem dX10_readLine_132 : decode cX10_readLine 132 = .ok (.bipush 10, 2) := by decide +kernel
theorem dX10_readLine_134 : decode cX10_readLine 134 = .ok (.goto 5, 3) := by decide +kernel
theorem dX10_readLine_137 : decode cX10_readLine 137 = .ok (.bipush 20, 2) := by decide +kernel
theorem dX10_readLine_139 : decode cX10_readLine 139 = .ok (.invokevirtual 120, 3) := by decide +kernel
theorem dX10_readLine_142 : decode cX10_readLine 142 = .ok (.aload_n 0, 1) := by decide +kernel
theorem dX10_readLine_143 : decode cX10_readLine 143 = .ok (.invokevirtual 112, 3) := by decide +kernel
theorem dX10_readLine_146 : decode cX10_readLine 146 = .ok (.goto 147, 3) := by decide +kernel
theorem dX10_readLine_149 : decode cX10_readLine 149 = .ok (.iload_n 1, 1) := by decide +kernel
theorem dX10_readLine_150 : decode cX10_readLine 150 = .ok (.iconst 3, 1) := by decide +kernel
theorem dX10_readLine_151 : decode cX10_readLine 151 = .ok (.if_icmp .ne 90, 3) := by decide +kernel
theorem dX10_readLine_154 : decode cX10_readLine 154 = .ok (.aload_n 0, 1) := by decide +kernel
theorem dX10_readLine_155 : decode cX10_readLine 155 = .ok (.bipush 12, 2) := by decide +kernel
theorem dX10_readLine_157 : decode cX10_readLine 157 = .ok (.invokevirtual 117, 3) := by decide +kernel
theorem dX10_readLine_160 : decode cX10_readLine 160 = .ok (.iconst 0, 1) := by decide +kernel
theorem dX10_readLine_161 : decode cX10_readLine 161 = .ok (.istore_n 2, 1) := by decide +kernel
theorem dX10_readLine_162 : decode cX10_readLine 162 = .ok (.iload_n 2, 1) := by decide +kernel
theorem dX10_readLine_163 : decode cX10_readLine 163 = .ok (.iconst 4, 1) := by decide +kernel
theorem dX10_readLine_164 : decode cX10_readLine 164 = .ok (.if_icmp .ge 24, 3) := by decide +kernel
theorem dX10_readLine_167 : decode cX10_readLine 167 = .ok (.aload_n 0, 1) := by decide +kernel
theorem dX10_readLine_168 : decode cX10_readLine 168 = .ok (.invokevirtual 112, 3) := by decide +kernel
theorem dX10_readLine_171 : decode cX10_readLine 171 = .ok (.aload_n 0, 1) := by decide +kernel
theorem dX10_readLine_172 : decode cX10_readLine 172 = .ok (.bipush 12, 2) := by decide +kernel
theorem dX10_readLine_174 : decode cX10_readLine 174 = .ok (.iload_n 2, 1) := by decide +kernel
theorem dX10_readLine_175 : decode cX10_readLine 175 = .ok (.iadd, 1) := by decide +kernel
theorem dX10_readLine_176 : decode cX10_readLine 176 = .ok (.iconst 0, 1) := by decide +kernel
theorem dX10_readLine_177 : decode cX10_readLine 177 = .ok (.bipush 99, 2) := by decide +kernel
theorem dX10_readLine_179 : decode cX10_readLine 179 = .ok (.invokevirtual 120, 3) := by decide +kernel
theorem dX10_readLine_182 : decode cX10_readLine 182 = .ok (.iinc 2 1, 3) := by decide +kernel
theorem dX10_readLine_185 : decode cX10_readLine 185 = .ok (.goto (-23), 3) := by decide +kernel
theorem dX10_readLine_188 : decode cX10_readLine 188 = .ok (.aload_n 0, 1) := by decide +kernel
theorem dX10_readLine_189 : decode cX10_readLine 189 = .ok (.getfield 71, 3) := by decide +kernel
theorem dX10_readLine_192 : decode cX10_readLine 192 = .ok (.ifCond .ne 42, 3) := by decide +kernel
theorem dX10_readLine_195 : decode cX10_readLine 195 = .ok (.aload_n 0, 1) := by decide +kernel
theorem dX10_readLine_196 : decode cX10_readLine 196 = .ok (.getfield 25, 3) := by decide +kernel
theorem dX10_readLine_199 : decode cX10_readLine 199 = .ok (.bipush 12, 2) := by decide +kernel
theorem dX10_readLine_201 : decode cX10_readLine 201 = .ok (.iaload, 1) := by decide +kernel
theorem dX10_readLine_202 : decode cX10_readLine 202 = .ok (.aload_n 0, 1) := by decide +kernel
theorem dX10_readLine_203 : decode cX10_readLine 203 = .ok (.getfield 25, 3) := by decide +kernel
theorem dX10_readLine_206 : decode cX10_readLine 206 = .ok (.bipush 13, 2) := by decide +kernel
theorem dX10_readLine_208 : decode cX10_readLine 208 = .ok (.iaload, 1) := by decide +kernel
theorem dX10_readLine_209 : decode cX10_readLine 209 = .ok (.iadd, 1) := by decide +kernel
theorem dX10_readLine_210 : decode cX10_readLine 210 = .ok (.aload_n 0, 1) := by decide +kernel
theorem dX10_readLine_211 : decode cX10_readLine 211 = .ok (.getfield 25, 3) := by decide +kernel
theorem dX10_readLine_214 : decode cX10_readLine 214 = .ok (.bipush 14, 2) := by decide +kernel
theorem dX10_readLine_216 : decode cX10_readLine 216 = .ok (.iaload, 1) := by decide +kernel
theorem dX10_readLine_217 : decode cX10_readLine 217 = .ok (.iadd, 1) := by decide +kernel
theorem dX10_readLine_218 : decode cX10_readLine 218 = .ok (.aload_n 0, 1) := by decide +kernel
theorem dX10_readLine_219 : decode cX10_readLine 219 = .ok (.getfield 25, 3) := by decide +kernel
theorem dX10_readLine_222 : decode cX10_readLine 222 = .ok (.bipush 15, 2) := by decide +kernel
theorem dX10_readLine_224 : decode cX10_readLine 224 = .ok (.iaload, 1) := by decide +kernel
theorem dX10_readLine_225 : decode cX10_readLine 225 = .ok (.iadd, 1) := by decide +kernel
theorem dX10_readLine_226 : decode cX10_readLine 226 = .ok (.ifCond .ne 8, 3) := by decide +kernel
theorem dX10_readLine_229 : decode cX10_readLine 229 = .ok (.aload_n 0, 1) := by decide +kernel
theorem dX10_readLine_230 : decode cX10_readLine 230 = .ok (.iconst 3, 1) := by decide +kernel
theorem dX10_readLine_231 : decode cX10_readLine 231 = .ok (.invokevirtual 101, 3) := by decide +kernel
theorem dX10_readLine_234 : decode cX10_readLine 234 = .ok (.aload_n 0, 1) := by decide +kernel
theorem dX10_readLine_235 : decode cX10_readLine 235 = .ok (.invokevirtual 112, 3) := by decide +kernel
theorem dX10_readLine_238 : decode cX10_readLine 238 = .ok (.goto 55, 3) := by decide +kernel
theorem dX10_readLine_241 : decode cX10_readLine 241 = .ok (.aload_n 0, 1) := by decide +kernel
theorem dX10_readLine_242 : decode cX10_readLine 242 = .ok (.bipush 16, 2) := by decide +kernel
theorem dX10_readLine_244 : decode cX10_readLine 244 = .ok (.iload_n 1, 1) := by decide +kernel
theorem dX10_readLine_245 : decode cX10_readLine 245 = .ok (.iadd, 1) := by decide +kernel
theorem dX10_readLine_246 : decode cX10_readLine 246 = .ok (.iconst 4, 1) := by decide +kernel
theorem dX10_readLine_247 : decode cX10_readLine 247 = .ok (.isub, 1) := by decide +kernel
theorem dX10_readLine_248 : decode cX10_readLine 248 = .ok (.invokevirtual 117, 3) := by decide +kernel
theorem dX10_readLine_251 : decode cX10_readLine 251 = .ok (.aload_n 0, 1) := by decide +kernel
theorem dX10_readLine_252 : decode cX10_readLine 252 = .ok (.invokevirtual 112, 3) := by decide +kernel
theorem dX10_readLine_255 : decode cX10_readLine 255 = .ok (.aload_n 0, 1) := by decide +kernel
theorem dX10_readLine_256 : decode cX10_readLine 256 = .ok (.bipush 16, 2) := by decide +kernel
theorem dX10_readLine_258 : decode cX10_readLine 258 = .ok (.iload_n 1, 1) := by decide +kernel
theorem dX10_readLine_259 : decode cX10_readLine 259 = .ok (.iadd, 1) := by decide +kernel
theorem dX10_readLine_260 : decode cX10_readLine 260 = .ok (.iconst 4, 1) := by decide +kernel
theorem dX10_readLine_261 : decode cX10_readLine 261 = .ok (.isub, 1) := by decide +kernel
theorem dX10_readLine_262 : decode cX10_readLine 262 = .ok (.iconst 0, 1) := by decide +kernel
theorem dX10_readLine_263 : decode cX10_readLine 263 = .ok (.iload_n 1, 1) := by decide +kernel
theorem dX10_readLine_264 : decode cX10_readLine 264 = .ok (.iconst 4, 1) := by decide +kernel
theorem dX10_readLine_265 : decode cX10_readLine 265 = .ok (.if_icmp .ne 9, 3) := by decide +kernel
theorem dX10_readLine_268 : decode cX10_readLine 268 = .ok (.sipush 999, 3) := by decide +kernel
theorem dX10_readLine_271 : decode cX10_readLine 271 = .ok (.goto 15, 3) := by decide +kernel
theorem dX10_readLine_274 : decode cX10_readLine 274 = .ok (.iload_n 1, 1) := by decide +kernel
theorem dX10_readLine_275 : decode cX10_readLine 275 = .ok (.iconst 5, 1) := by decide +kernel
theorem dX10_readLine_276 : decode cX10_readLine 276 = .ok (.if_icmp .ne 8, 3) := by decide +kernel
theorem dX10_readLine_279 : decode cX10_readLine 279 = .ok (.bipush 99, 2) := by decide +kernel
theorem dX10_readLine_281 : decode cX10_readLine 281 = .ok (.goto 5, 3) := by decide +kernel
theorem dX10_readLine_284 : decode cX10_readLine 284 = .ok (.bipush 60, 2) := by decide +kernel
theorem dX10_readLine_286 : decode cX10_readLine 286 = .ok (.invokevirtual 120, 3) := by decide +kernel
theorem dX10_readLine_289 : decode cX10_readLine 289 = .ok (.aload_n 0, 1) := by decide +kernel
theorem dX10_readLine_290 : decode cX10_readLine 290 = .ok (.invokevirtual 112, 3) := by decide +kernel
theorem dX10_readLine_293 : decode cX10_readLine 293 = .ok (.aload_n 0, 1) := by decide +kernel
theorem dX10_readLine_294 : decode cX10_readLine 294 = .ok (.getfield 71, 3) := by decide +kernel
theorem dX10_readLine_297 : decode cX10_readLine 297 = .ok (.ifCond .ne 16, 3) := by decide +kernel
theorem dX10_readLine_300 : decode cX10_readLine 300 = .ok (.aload_n 0, 1) := by decide +kernel
theorem dX10_readLine_301 : decode cX10_readLine 301 = .ok (.getfield 90, 3) := by decide +kernel
theorem dX10_readLine_304 : decode cX10_readLine 304 = .ok (.iconst 3, 1) := by decide +kernel
theorem dX10_readLine_305 : decode cX10_readLine 305 = .ok (.if_icmp .eq 8, 3) := by decide +kernel
theorem dX10_readLine_308 : decode cX10_readLine 308 = .ok (.aload_n 0, 1) := by decide +kernel
theorem dX10_readLine_309 : decode cX10_readLine 309 = .ok (.iconst 2, 1) := by decide +kernel
theorem dX10_readLine_310 : decode cX10_readLine 310 = .ok (.invokevirtual 101, 3) := by decide +kernel
theorem dX10_readLine_313 : decode cX10_readLine 313 = .ok (.aload_n 0, 1) := by decide +kernel
theorem dX10_readLine_314 : decode cX10_readLine 314 = .ok (.invokevirtual 112, 3) := by decide +kernel
theorem dX10_readLine_317 : decode cX10_readLine 317 = .ok (.return_, 1) := by decide +kernel
set_option maxRecDepth 20000 in
theorem ggX10_text_X10_next : GoodIn wsX10_text wsX10_next := goodIn_r _ [16, 1, 2, 17, 18, 6, 19, 20, 21, 22, 23, 24, 25, 15, 26, 7, 27, 28, 29, 30, 31, 32, 33, 34, 9, 54, 55, 56, 57, 58, 59, 60, 61, 62, 63, 64, 65, 66, 67, 68, 69, 70, 71, 72, 73, 74, 75, 76, 77, 78, 79, 80, 81, 82, 83, 84, 85] (by decide +kernel) (by decide +kernel)
set_option maxRecDepth 20000 in
theorem gX10_text_X10_next : GoodIn wsX10_text (wsV RX10 112 RX10 yX10_next wsX10_next) := goodIn_app (goodIn_of _ (by decide +kernel)) ggX10_text_X10_next
set_option maxRecDepth 20000 in
theorem ggX10_text_X10_readLine : GoodIn wsX10_text wsX10_readLine := goodIn_r _ [38, 1, 6, 2, 17, 19, 39, 4, 40, 41, 42, 15, 43, 44, 45, 23, 24, 25, 26, 7, 27, 31, 32, 33, 34, 9, 12, 13, 14, 16, 18, 20, 21, 22, 28, 29, 30, 46, 47, 48, 49, 3, 50, 51, 52, 53, 54, 55, 56, 57, 58, 59, 60, 61, 62, 63, 64, 65, 66, 67, 68, 69, 70, 71, 72, 73, 74, 75, 76, 77, 78, 79, 80, 81, 82, 83, 84, 85] (by decide +kernel) (by decide +kernel)
set_option maxRecDepth 20000 in
theorem gX10_text_X10_readLine : GoodIn wsX10_text (wsV RX10 124 RX10 yX10_readLine wsX10_readLine) := goodIn_app (goodIn_of _ (by decide +kernel)) ggX10_text_X10_readLine
theorem dX10_text_0 : decode cX10_text 0 = .ok (.aload_n 0, 1) := by decide +kernel
theorem dX10_text_1 : decode cX10_text 1 = .ok (.iconst 0, 1) := by decide +kernel
theorem dX10_text_2 : decode cX10_text 2 = .ok (.putfield 71, 3) := by decide +kernel
theorem dX10_text_5 : decode cX10_text 5 = .ok (.aload_n 0, 1) := by decide +kernel
theorem dX10_text_6 : decode cX10_text 6 = .ok (.iconst 0, 1) := by decide +kernel
theorem dX10_text_7 : decode cX10_text 7 = .ok (.putfield 80, 3) := by decide +kernel
theorem dX10_text_10 : decode cX10_text 10 = .ok (.aload_n 0, 1) := by decide +kernel
theorem dX10_text_11 : decode cX10_text 11 = .ok (.iconst 0, 1) := by decide +kernel
theorem dX10_text_12 : decode cX10_text 12 = .ok (.putfield 105, 3) := by decide +kernel
theorem dX10_text_15 : decode cX10_text 15 = .ok (.iconst 0, 1) := by decide +kernel
theorem dX10_text_16 : decode cX10_text 16 = .ok (.istore_n 1, 1) := by decide +kernel
theorem dX10_text_17 : decode cX10_text 17 = .ok (.iconst 0, 1) := by decide +kernel
theorem dX10_text_18 : decode cX10_text 18 = .ok (.istore_n 2, 1) := by decide +kernel
theorem dX10_text_19 : decode cX10_text 19 = .ok (.iload_n 2, 1) := by decide +kernel
theorem dX10_text_20 : decode cX10_text 20 = .ok (.bipush 19, 2) := by decide +kernel
theorem dX10_text_22 : decode cX10_text 22 = .ok (.if_icmp .ge 21, 3) := by decide +kernel
theorem dX10_text_25 : decode cX10_text 25 = .ok (.aload_n 0, 1) := by decide +kernel
theorem dX10_text_26 : decode cX10_text 26 = .ok (.getfield 25, 3) := by decide +kernel
theorem dX10_text_29 : decode cX10_text 29 = .ok (.iload_n 2, 1) := by decide +kernel
theorem dX10_text_30 : decode cX10_text 30 = .ok (.aload_n 0, 1) := by decide +kernel
theorem dX10_text_31 : decode cX10_text 31 = .ok (.getfield 19, 3) := by decide +kernel
theorem dX10_text_34 : decode cX10_text 34 = .ok (.iload_n 2, 1) := by decide +kernel
theorem dX10_text_35 : decode cX10_text 35 = .ok (.iaload, 1) := by decide +kernel
theorem dX10_text_36 : decode cX10_text 36 = .ok (.iastore, 1) := by decide +kernel
theorem dX10_text_37 : decode cX10_text 37 = .ok (.iinc 2 1, 3) := by decide +kernel
theorem dX10_text_40 : decode cX10_text 40 = .ok (.goto (-21), 3) := by decide +kernel
theorem dX10_text_43 : decode cX10_text 43 = .ok (.aload_n 0, 1) := by decide +kernel
theorem dX10_text_44 : decode cX10_text 44 = .ok (.invokevirtual 112, 3) := by decide +kernel
theorem dX10_text_47 : decode cX10_text 47 = .ok (.aload_n 0, 1) := by decide +kernel
theorem dX10_text_48 : decode cX10_text 48 = .ok (.getfield 71, 3) := by decide +kernel
theorem dX10_text_51 : decode cX10_text 51 = .ok (.ifCond .ne 20, 3) := by decide +kernel
theorem dX10_text_54 : decode cX10_text 54 = .ok (.aload_n 0, 1) := by decide +kernel
theorem dX10_text_55 : decode cX10_text 55 = .ok (.getfield 90, 3) := by decide +kernel
theorem dX10_text_58 : decode cX10_text 58 = .ok (.ifCond .eq 13, 3) := by decide +kernel
theorem dX10_text_61 : decode cX10_text 61 = .ok (.aload_n 0, 1) := by decide +kernel
theorem dX10_text_62 : decode cX10_text 62 = .ok (.invokevirtual 124, 3) := by decide +kernel
theorem dX10_text_65 : decode cX10_text 65 = .ok (.iinc 1 1, 3) := by decide +kernel
theorem dX10_text_68 : decode cX10_text 68 = .ok (.goto (-21), 3) := by decide +kernel
theorem dX10_text_71 : decode cX10_text 71 = .ok (.aload_n 0, 1) := by decide +kernel
theorem dX10_text_72 : decode cX10_text 72 = .ok (.iconst 0, 1) := by decide +kernel
theorem dX10_text_73 : decode cX10_text 73 = .ok (.putfield 63, 3) := by decide +kernel
theorem dX10_text_76 : decode cX10_text 76 = .ok (.aload_n 0, 1) := by decide +kernel
theorem dX10_text_77 : decode cX10_text 77 = .ok (.aload_n 0, 1) := by decide +kernel
theorem dX10_text_78 : decode cX10_text 78 = .ok (.getfield 71, 3) := by decide +kernel
theorem dX10_text_81 : decode cX10_text 81 = .ok (.putfield 127, 3) := by decide +kernel
theorem dX10_text_84 : decode cX10_text 84 = .ok (.aload_n 0, 1) := by decide +kernel
theorem dX10_text_85 : decode cX10_text 85 = .ok (.getfield 71, 3) := by decide +kernel
theorem dX10_text_88 : decode cX10_text 88 = .ok (.ifCond .le 11, 3) := by decide +kernel
theorem dX10_text_91 : decode cX10_text 91 = .ok (.bipush (-10), 2) := by decide +kernel
theorem dX10_text_93 : decode cX10_text 93 = .ok (.aload_n 0, 1) := by decide +kernel
theorem dX10_text_94 : decode cX10_text 94 = .ok (.getfield 77, 3) := by decide +kernel
theorem dX10_text_97 : decode cX10_text 97 = .ok (.isub, 1) := by decide +kernel
theorem dX10_text_98 : decode cX10_text 98 = .ok (.ireturn, 1) := by decide +kernel
theorem dX10_text_99 : decode cX10_text 99 = .ok (.iconst 0, 1) := by decide +kernel
theorem dX10_text_100 : decode cX10_text 100 = .ok (.istore_n 2, 1) := by decide +kernel
theorem dX10_text_101 : decode cX10_text 101 = .ok (.iload_n 2, 1) := by decide +kernel
theorem dX10_text_102 : decode cX10_text 102 = .ok (.bipush 19, 2) := by decide +kernel
theorem dX10_text_104 : decode cX10_text 104 = .ok (.if_icmp .ge 21, 3) := by decide +kernel
theorem dX10_text_107 : decode cX10_text 107 = .ok (.aload_n 0, 1) := by decide +kernel
theorem dX10_text_108 : decode cX10_text 108 = .ok (.getfield 22, 3) := by decide +kernel
theorem dX10_text_111 : decode cX10_text 111 = .ok (.iload_n 2, 1) := by decide +kernel
theorem dX10_text_112 : decode cX10_text 112 = .ok (.aload_n 0, 1) := by decide +kernel
theorem dX10_text_113 : decode cX10_text 113 = .ok (.getfield 25, 3) := by decide +kernel
theorem dX10_text_116 : decode cX10_text 116 = .ok (.iload_n 2, 1) := by decide +kernel
theorem dX10_text_117 : decode cX10_text 117 = .ok (.iaload, 1) := by decide +kernel
theorem dX10_text_118 : decode cX10_text 118 = .ok (.iastore, 1) := by decide +kernel
theorem dX10_text_119 : decode cX10_text 119 = .ok (.iinc 2 1, 3) := by decide +kernel
theorem dX10_text_122 : decode cX10_text 122 = .ok (.goto (-21), 3) := by decide +kernel
theorem dX10_text_125 : decode cX10_text 125 = .ok (.aload_n 0, 1) := by decide +kernel
theorem dX10_text_126 : decode cX10_text 126 = .ok (.iconst 1, 1) := by decide +kernel
theorem dX10_text_127 : decode cX10_text 127 = .ok (.putfield 47, 3) := by decide +kernel
theorem dX10_text_130 : decode cX10_text 130 = .ok (.iload_n 1, 1) := by decide +kernel
theorem dX10_text_131 : decode cX10_text 131 = .ok (.ireturn, 1) := by decide +kernel
theorem dX10_fault_0 : decode cX10_fault 0 = .ok (.aload_n 0, 1) := by decide +kernel
theorem dX10_fault_1 : decode cX10_fault 1 = .ok (.getfield 127, 3) := by decide +kernel
theorem dX10_fault_4 : decode cX10_fault 4 = .ok (.ireturn, 1) := by decide +kernel
set_option maxRecDepth 20000 in
theorem ggX10_isPart_X10_in : GoodIn wsX10_isPart wsX10_in := goodIn_r _ [5] (by decide +kernel) (by decide +kernel)
set_option maxRecDepth 20000 in
theorem gX10_isPart_X10_in : GoodIn wsX10_isPart (va_wsS RX10 67 yX10_in wsX10_in) := goodIn_app (goodIn_of _ (by decide +kernel)) ggX10_isPart_X10_in
theorem dX10_isPart_0 : decode cX10_isPart 0 = .ok (.iload_n 0, 1) := by decide +kernel
theorem dX10_isPart_1 : decode cX10_isPart 1 = .ok (.i2l, 1) := by decide +kernel
theorem dX10_isPart_2 : decode cX10_isPart 2 = .ok (.lconst 0, 1) := by decide +kernel
theorem dX10_isPart_3 : decode cX10_isPart 3 = .ok (.ldc2_w 130, 3) := by decide +kernel
theorem dX10_isPart_6 : decode cX10_isPart 6 = .ok (.invokestatic 67, 3) := by decide +kernel
theorem dX10_isPart_9 : decode cX10_isPart 9 = .ok (.ireturn, 1) := by decide +kernel
set_option maxRecDepth 20000 in
theorem ggX10_part_X10_isPart : GoodIn wsX10_part wsX10_isPart := goodIn_r _ [6, 7, 8, 9, 5, 10] (by decide +kernel) (by decide +kernel)
set_option maxRecDepth 20000 in
theorem gX10_part_X10_isPart : GoodIn wsX10_part (va_wsS RX10 132 yX10_isPart wsX10_isPart) := goodIn_app (goodIn_of _ (by decide +kernel)) ggX10_part_X10_isPart
set_option maxRecDepth 20000 in
theorem ggX10_part_X10_in : GoodIn wsX10_part wsX10_in := goodIn_r _ [10] (by decide +kernel) (by decide +kernel)
set_option maxRecDepth 20000 in
theorem gX10_part_X10_in : GoodIn wsX10_part (va_wsS RX10 67 yX10_in wsX10_in) := goodIn_app (goodIn_of _ (by decide +kernel)) ggX10_part_X10_in
theorem dX10_part_0 : decode cX10_part 0 = .ok (.iload_n 1, 1) := by decide +kernel
theorem dX10_part_1 : decode cX10_part 1 = .ok (.invokestatic 132, 3) := by decide +kernel
theorem dX10_part_4 : decode cX10_part 4 = .ok (.ifCond .eq 28, 3) := by decide +kernel
theorem dX10_part_7 : decode cX10_part 7 = .ok (.iload_n 2, 1) := by decide +kernel
theorem dX10_part_8 : decode cX10_part 8 = .ok (.i2l, 1) := by decide +kernel
theorem dX10_part_9 : decode cX10_part 9 = .ok (.lconst 0, 1) := by decide +kernel
theorem dX10_part_10 : decode cX10_part 10 = .ok (.ldc2_w 136, 3) := by decide +kernel
theorem dX10_part_13 : decode cX10_part 13 = .ok (.invokestatic 67, 3) := by decide +kernel
theorem dX10_part_16 : decode cX10_part 16 = .ok (.ifCond .eq 16, 3) := by decide +kernel
theorem dX10_part_19 : decode cX10_part 19 = .ok (.aload_n 0, 1) := by decide +kernel
theorem dX10_part_20 : decode cX10_part 20 = .ok (.getfield 22, 3) := by decide +kernel
theorem dX10_part_23 : decode cX10_part 23 = .ok (.iconst 4, 1) := by decide +kernel
theorem dX10_part_24 : decode cX10_part 24 = .ok (.iload_n 2, 1) := by decide +kernel
theorem dX10_part_25 : decode cX10_part 25 = .ok (.imul, 1) := by decide +kernel
theorem dX10_part_26 : decode cX10_part 26 = .ok (.iload_n 1, 1) := by decide +kernel
theorem dX10_part_27 : decode cX10_part 27 = .ok (.iadd, 1) := by decide +kernel
theorem dX10_part_28 : decode cX10_part 28 = .ok (.iaload, 1) := by decide +kernel
theorem dX10_part_29 : decode cX10_part 29 = .ok (.goto 4, 3) := by decide +kernel
theorem dX10_part_32 : decode cX10_part 32 = .ok (.iconst (-1), 1) := by decide +kernel
theorem dX10_part_33 : decode cX10_part 33 = .ok (.ireturn, 1) := by decide +kernel
set_option maxRecDepth 20000 in
theorem ggX10_rule_X10_in : GoodIn wsX10_rule wsX10_in := goodIn_r _ [6] (by decide +kernel) (by decide +kernel)
set_option maxRecDepth 20000 in
theorem gX10_rule_X10_in : GoodIn wsX10_rule (va_wsS RX10 67 yX10_in wsX10_in) := goodIn_app (goodIn_of _ (by decide +kernel)) ggX10_rule_X10_in
theorem dX10_rule_0 : decode cX10_rule 0 = .ok (.iload_n 1, 1) := by decide +kernel
theorem dX10_rule_1 : decode cX10_rule 1 = .ok (.i2l, 1) := by decide +kernel
theorem dX10_rule_2 : decode cX10_rule 2 = .ok (.lconst 0, 1) := by decide +kernel
theorem dX10_rule_3 : decode cX10_rule 3 = .ok (.ldc2_w 138, 3) := by decide +kernel
theorem dX10_rule_6 : decode cX10_rule 6 = .ok (.invokestatic 67, 3) := by decide +kernel
theorem dX10_rule_9 : decode cX10_rule 9 = .ok (.ifCond .eq 15, 3) := by decide +kernel
theorem dX10_rule_12 : decode cX10_rule 12 = .ok (.aload_n 0, 1) := by decide +kernel
theorem dX10_rule_13 : decode cX10_rule 13 = .ok (.getfield 22, 3) := by decide +kernel
theorem dX10_rule_16 : decode cX10_rule 16 = .ok (.bipush 12, 2) := by decide +kernel
theorem dX10_rule_18 : decode cX10_rule 18 = .ok (.iload_n 1, 1) := by decide +kernel
theorem dX10_rule_19 : decode cX10_rule 19 = .ok (.iadd, 1) := by decide +kernel
theorem dX10_rule_20 : decode cX10_rule 20 = .ok (.iaload, 1) := by decide +kernel
theorem dX10_rule_21 : decode cX10_rule 21 = .ok (.goto 4, 3) := by decide +kernel
theorem dX10_rule_24 : decode cX10_rule 24 = .ok (.iconst (-1), 1) := by decide +kernel
theorem dX10_rule_25 : decode cX10_rule 25 = .ok (.ireturn, 1) := by decide +kernel
theorem dX10_acts_0 : decode cX10_acts 0 = .ok (.aload_n 0, 1) := by decide +kernel
theorem dX10_acts_1 : decode cX10_acts 1 = .ok (.getfield 140, 3) := by decide +kernel
theorem dX10_acts_4 : decode cX10_acts 4 = .ok (.bipush 8, 2) := by decide +kernel
theorem dX10_acts_6 : decode cX10_acts 6 = .ok (.if_icmp .ne 43, 3) := by decide +kernel
theorem dX10_acts_9 : decode cX10_acts 9 = .ok (.bipush 10, 2) := by decide +kernel
theorem dX10_acts_11 : decode cX10_acts 11 = .ok (.istore_n 1, 1) := by decide +kernel
theorem dX10_acts_12 : decode cX10_acts 12 = .ok (.iload_n 1, 1) := by decide +kernel
theorem dX10_acts_13 : decode cX10_acts 13 = .ok (.bipush 80, 2) := by decide +kernel
theorem dX10_acts_15 : decode cX10_acts 15 = .ok (.if_icmp .ge 24, 3) := by decide +kernel
theorem dX10_acts_18 : decode cX10_acts 18 = .ok (.aload_n 0, 1) := by decide +kernel
theorem dX10_acts_19 : decode cX10_acts 19 = .ok (.getfield 31, 3) := by decide +kernel
theorem dX10_acts_22 : decode cX10_acts 22 = .ok (.iload_n 1, 1) := by decide +kernel
theorem dX10_acts_23 : decode cX10_acts 23 = .ok (.bipush 10, 2) := by decide +kernel
theorem dX10_acts_25 : decode cX10_acts 25 = .ok (.isub, 1) := by decide +kernel
theorem dX10_acts_26 : decode cX10_acts 26 = .ok (.aload_n 0, 1) := by decide +kernel
theorem dX10_acts_27 : decode cX10_acts 27 = .ok (.getfield 31, 3) := by decide +kernel
theorem dX10_acts_30 : decode cX10_acts 30 = .ok (.iload_n 1, 1) := by decide +kernel
theorem dX10_acts_31 : decode cX10_acts 31 = .ok (.iaload, 1) := by decide +kernel
theorem dX10_acts_32 : decode cX10_acts 32 = .ok (.iastore, 1) := by decide +kernel
theorem dX10_acts_33 : decode cX10_acts 33 = .ok (.iinc 1 1, 3) := by decide +kernel
theorem dX10_acts_36 : decode cX10_acts 36 = .ok (.goto (-24), 3) := by decide +kernel
theorem dX10_acts_39 : decode cX10_acts 39 = .ok (.aload_n 0, 1) := by decide +kernel
theorem dX10_acts_40 : decode cX10_acts 40 = .ok (.dup, 1) := by decide +kernel
theorem dX10_acts_41 : decode cX10_acts 41 = .ok (.getfield 140, 3) := by decide +kernel
theorem dX10_acts_44 : decode cX10_acts 44 = .ok (.iconst 1, 1) := by decide +kernel
theorem dX10_acts_45 : decode cX10_acts 45 = .ok (.isub, 1) := by decide +kernel
theorem dX10_acts_46 : decode cX10_acts 46 = .ok (.putfield 140, 3) := by decide +kernel
theorem dX10_acts_49 : decode cX10_acts 49 = .ok (.iconst 0, 1) := by decide +kernel
theorem dX10_acts_50 : decode cX10_acts 50 = .ok (.istore_n 1, 1) := by decide +kernel
theorem dX10_acts_51 : decode cX10_acts 51 = .ok (.iload_n 1, 1) := by decide +kernel
theorem dX10_acts_52 : decode cX10_acts 52 = .ok (.bipush 10, 2) := by decide +kernel
theorem dX10_acts_54 : decode cX10_acts 54 = .ok (.if_icmp .ge 29, 3) := by decide +kernel
theorem dX10_acts_57 : decode cX10_acts 57 = .ok (.aload_n 0, 1) := by decide +kernel
theorem dX10_acts_58 : decode cX10_acts 58 = .ok (.getfield 31, 3) := by decide +kernel
theorem dX10_acts_61 : decode cX10_acts 61 = .ok (.bipush 10, 2) := by decide +kernel
theorem dX10_acts_63 : decode cX10_acts 63 = .ok (.aload_n 0, 1) := by decide +kernel
theorem dX10_acts_64 : decode cX10_acts 64 = .ok (.getfield 140, 3) := by decide +kernel
theorem dX10_acts_67 : decode cX10_acts 67 = .ok (.imul, 1) := by decide +kernel
theorem dX10_acts_68 : decode cX10_acts 68 = .ok (.iload_n 1, 1) := by decide +kernel
theorem dX10_acts_69 : decode cX10_acts 69 = .ok (.iadd, 1) := by decide +kernel
theorem dX10_acts_70 : decode cX10_acts 70 = .ok (.aload_n 0, 1) := by decide +kernel
theorem dX10_acts_71 : decode cX10_acts 71 = .ok (.getfield 28, 3) := by decide +kernel
theorem dX10_acts_74 : decode cX10_acts 74 = .ok (.iload_n 1, 1) := by decide +kernel
theorem dX10_acts_75 : decode cX10_acts 75 = .ok (.iaload, 1) := by decide +kernel
theorem dX10_acts_76 : decode cX10_acts 76 = .ok (.iastore, 1) := by decide +kernel
theorem dX10_acts_77 : decode cX10_acts 77 = .ok (.iinc 1 1, 3) := by decide +kernel
theorem dX10_acts_80 : decode cX10_acts 80 = .ok (.goto (-29), 3) := by decide +kernel
theorem dX10_acts_83 : decode cX10_acts 83 = .ok (.aload_n 0, 1) := by decide +kernel
theorem dX10_acts_84 : decode cX10_acts 84 = .ok (.dup, 1) := by decide +kernel
theorem dX10_acts_85 : decode cX10_acts 85 = .ok (.getfield 140, 3) := by decide +kernel
theorem dX10_acts_88 : decode cX10_acts 88 = .ok (.iconst 1, 1) := by decide +kernel
theorem dX10_acts_89 : decode cX10_acts 89 = .ok (.iadd, 1) := by decide +kernel
theorem dX10_acts_90 : decode cX10_acts 90 = .ok (.putfield 140, 3) := by decide +kernel
theorem dX10_acts_93 : decode cX10_acts 93 = .ok (.aload_n 0, 1) := by decide +kernel
theorem dX10_acts_94 : decode cX10_acts 94 = .ok (.iconst 1, 1) := by decide +kernel
theorem dX10_acts_95 : decode cX10_acts 95 = .ok (.putfield 47, 3) := by decide +kernel
theorem dX10_acts_98 : decode cX10_acts 98 = .ok (.return_, 1) := by decide +kernel
theorem dX10_figure_0 : decode cX10_figure 0 = .ok (.iload_n 0, 1) := by decide +kernel
theorem dX10_figure_1 : decode cX10_figure 1 = .ok (.iconst 2, 1) := by decide +kernel
theorem dX10_figure_2 : decode cX10_figure 2 = .ok (.iconst 3, 1) := by decide +kernel
theorem dX10_figure_3 : decode cX10_figure 3 = .ok (.iload_n 1, 1) := by decide +kernel
theorem dX10_figure_4 : decode cX10_figure 4 = .ok (.isub, 1) := by decide +kernel
theorem dX10_figure_5 : decode cX10_figure 5 = .ok (.imul, 1) := by decide +kernel
theorem dX10_figure_6 : decode cX10_figure 6 = .ok (.ishr, 1) := by decide +kernel
theorem dX10_figure_7 : decode cX10_figure 7 = .ok (.iconst 3, 1) := by decide +kernel
theorem dX10_figure_8 : decode cX10_figure 8 = .ok (.iand, 1) := by decide +kernel
theorem dX10_figure_9 : decode cX10_figure 9 = .ok (.ireturn, 1) := by decide +kernel
set_option maxRecDepth 20000 in
theorem ggX10_sumOf_X10_figure : GoodIn wsX10_sumOf wsX10_figure := goodIn_r _ [4] (by decide +kernel) (by decide +kernel)
set_option maxRecDepth 20000 in
theorem gX10_sumOf_X10_figure : GoodIn wsX10_sumOf (va_wsS RX10 143 yX10_figure wsX10_figure) := goodIn_app (goodIn_of _ (by decide +kernel)) ggX10_sumOf_X10_figure
theorem dX10_sumOf_0 : decode cX10_sumOf 0 = .ok (.iconst 0, 1) := by decide +kernel
theorem dX10_sumOf_1 : decode cX10_sumOf 1 = .ok (.istore_n 1, 1) := by decide +kernel
theorem dX10_sumOf_2 : decode cX10_sumOf 2 = .ok (.iconst 0, 1) := by decide +kernel
theorem dX10_sumOf_3 : decode cX10_sumOf 3 = .ok (.istore_n 2, 1) := by decide +kernel
theorem dX10_sumOf_4 : decode cX10_sumOf 4 = .ok (.iload_n 2, 1) := by decide +kernel
theorem dX10_sumOf_5 : decode cX10_sumOf 5 = .ok (.iconst 4, 1) := by decide +kernel
theorem dX10_sumOf_6 : decode cX10_sumOf 6 = .ok (.if_icmp .ge 17, 3) := by decide +kernel
theorem dX10_sumOf_9 : decode cX10_sumOf 9 = .ok (.iload_n 1, 1) := by decide +kernel
theorem dX10_sumOf_10 : decode cX10_sumOf 10 = .ok (.iload_n 0, 1) := by decide +kernel
theorem dX10_sumOf_11 : decode cX10_sumOf 11 = .ok (.iload_n 2, 1) := by decide +kernel
theorem dX10_sumOf_12 : decode cX10_sumOf 12 = .ok (.invokestatic 143, 3) := by decide +kernel
theorem dX10_sumOf_15 : decode cX10_sumOf 15 = .ok (.iadd, 1) := by decide +kernel
theorem dX10_sumOf_16 : decode cX10_sumOf 16 = .ok (.istore_n 1, 1) := by decide +kernel
theorem dX10_sumOf_17 : decode cX10_sumOf 17 = .ok (.iinc 2 1, 3) := by decide +kernel
theorem dX10_sumOf_20 : decode cX10_sumOf 20 = .ok (.goto (-16), 3) := by decide +kernel
theorem dX10_sumOf_23 : decode cX10_sumOf 23 = .ok (.iload_n 1, 1) := by decide +kernel
theorem dX10_sumOf_24 : decode cX10_sumOf 24 = .ok (.ireturn, 1) := by decide +kernel
set_option maxRecDepth 20000 in
theorem ggX10_home_X10_sumOf : GoodIn wsX10_home wsX10_sumOf := goodIn_r _ [5, 6, 7, 4, 8] (by decide +kernel) (by decide +kernel)
set_option maxRecDepth 20000 in
theorem gX10_home_X10_sumOf : GoodIn wsX10_home (va_wsS RX10 147 yX10_sumOf wsX10_sumOf) := goodIn_app (goodIn_of _ (by decide +kernel)) ggX10_home_X10_sumOf
set_option maxRecDepth 20000 in
theorem ggX10_home_X10_figure : GoodIn wsX10_home wsX10_figure := goodIn_r _ [8] (by decide +kernel) (by decide +kernel)
set_option maxRecDepth 20000 in
theorem gX10_home_X10_figure : GoodIn wsX10_home (va_wsS RX10 143 yX10_figure wsX10_figure) := goodIn_app (goodIn_of _ (by decide +kernel)) ggX10_home_X10_figure
theorem dX10_home_0 : decode cX10_home 0 = .ok (.aload_n 0, 1) := by decide +kernel
theorem dX10_home_1 : decode cX10_home 1 = .ok (.getfield 28, 3) := by decide +kernel
theorem dX10_home_4 : decode cX10_home 4 = .ok (.iconst 1, 1) := by decide +kernel
theorem dX10_home_5 : decode cX10_home 5 = .ok (.iload_n 2, 1) := by decide +kernel
theorem dX10_home_6 : decode cX10_home 6 = .ok (.invokestatic 147, 3) := by decide +kernel
theorem dX10_home_9 : decode cX10_home 9 = .ok (.iadd, 1) := by decide +kernel
theorem dX10_home_10 : decode cX10_home 10 = .ok (.dup2, 1) := by decide +kernel
theorem dX10_home_11 : decode cX10_home 11 = .ok (.iaload, 1) := by decide +kernel
theorem dX10_home_12 : decode cX10_home 12 = .ok (.iload_n 1, 1) := by decide +kernel
theorem dX10_home_13 : decode cX10_home 13 = .ok (.iadd, 1) := by decide +kernel
theorem dX10_home_14 : decode cX10_home 14 = .ok (.iastore, 1) := by decide +kernel
theorem dX10_home_15 : decode cX10_home 15 = .ok (.iconst 0, 1) := by decide +kernel
theorem dX10_home_16 : decode cX10_home 16 = .ok (.istore_n 3, 1) := by decide +kernel
theorem dX10_home_17 : decode cX10_home 17 = .ok (.iload_n 3, 1) := by decide +kernel
theorem dX10_home_18 : decode cX10_home 18 = .ok (.iconst 4, 1) := by decide +kernel
theorem dX10_home_19 : decode cX10_home 19 = .ok (.if_icmp .ge 27, 3) := by decide +kernel
theorem dX10_home_22 : decode cX10_home 22 = .ok (.aload_n 0, 1) := by decide +kernel
theorem dX10_home_23 : decode cX10_home 23 = .ok (.getfield 28, 3) := by decide +kernel
theorem dX10_home_26 : decode cX10_home 26 = .ok (.iconst 5, 1) := by decide +kernel
theorem dX10_home_27 : decode cX10_home 27 = .ok (.iload_n 3, 1) := by decide +kernel
theorem dX10_home_28 : decode cX10_home 28 = .ok (.iadd, 1) := by decide +kernel
theorem dX10_home_29 : decode cX10_home 29 = .ok (.dup2, 1) := by decide +kernel
theorem dX10_home_30 : decode cX10_home 30 = .ok (.iaload, 1) := by decide +kernel
theorem dX10_home_31 : decode cX10_home 31 = .ok (.iload_n 1, 1) := by decide +kernel
theorem dX10_home_32 : decode cX10_home 32 = .ok (.iload_n 2, 1) := by decide +kernel
theorem dX10_home_33 : decode cX10_home 33 = .ok (.iload_n 3, 1) := by decide +kernel
theorem dX10_home_34 : decode cX10_home 34 = .ok (.invokestatic 143, 3) := by decide +kernel
theorem dX10_home_37 : decode cX10_home 37 = .ok (.imul, 1) := by decide +kernel
theorem dX10_home_38 : decode cX10_home 38 = .ok (.iadd, 1) := by decide +kernel
theorem dX10_home_39 : decode cX10_home 39 = .ok (.iastore, 1) := by decide +kernel
theorem dX10_home_40 : decode cX10_home 40 = .ok (.iinc 3 1, 3) := by decide +kernel
theorem dX10_home_43 : decode cX10_home 43 = .ok (.goto (-26), 3) := by decide +kernel
theorem dX10_home_46 : decode cX10_home 46 = .ok (.return_, 1) := by decide +kernel
set_option maxRecDepth 20000 in
theorem ggX10_told_X10_in : GoodIn wsX10_told wsX10_in := goodIn_r _ [7] (by decide +kernel) (by decide +kernel)
set_option maxRecDepth 20000 in
theorem gX10_told_X10_in : GoodIn wsX10_told (va_wsS RX10 67 yX10_in wsX10_in) := goodIn_app (goodIn_of _ (by decide +kernel)) ggX10_told_X10_in
set_option maxRecDepth 20000 in
theorem ggX10_told_X10_sumOf : GoodIn wsX10_told wsX10_sumOf := goodIn_r _ [10, 11, 12, 6, 13] (by decide +kernel) (by decide +kernel)
set_option maxRecDepth 20000 in
theorem gX10_told_X10_sumOf : GoodIn wsX10_told (va_wsS RX10 147 yX10_sumOf wsX10_sumOf) := goodIn_app (goodIn_of _ (by decide +kernel)) ggX10_told_X10_sumOf
set_option maxRecDepth 20000 in
theorem ggX10_told_X10_acts : GoodIn wsX10_told wsX10_acts := goodIn_r _ [17, 18, 19, 3, 20, 25, 26, 27, 28, 29, 30, 31, 32, 33, 34, 35, 36, 37, 38, 39, 40, 41, 42, 43, 44, 45, 46, 47, 48, 49, 50, 51, 52, 53, 54, 55, 56] (by decide +kernel) (by decide +kernel)
set_option maxRecDepth 20000 in
theorem gX10_told_X10_acts : GoodIn wsX10_told (wsV RX10 154 RX10 yX10_acts wsX10_acts) := goodIn_app (goodIn_of _ (by decide +kernel)) ggX10_told_X10_acts
set_option maxRecDepth 20000 in
theorem ggX10_told_X10_home : GoodIn wsX10_told wsX10_home := goodIn_r _ [24, 3, 8, 9, 6, 10, 11, 12, 13, 25, 26, 27, 28, 29, 30, 31, 32, 33, 34, 35, 36, 37, 38, 39, 40, 41, 42, 43, 44, 45, 46, 47, 48, 49, 50, 51, 52, 53, 54, 55, 56] (by decide +kernel) (by decide +kernel)
set_option maxRecDepth 20000 in
theorem gX10_told_X10_home : GoodIn wsX10_told (wsV RX10 157 RX10 yX10_home wsX10_home) := goodIn_app (goodIn_of _ (by decide +kernel)) ggX10_told_X10_home
theorem dX10_told_0 : decode cX10_told 0 = .ok (.iload_n 1, 1) := by decide +kernel
theorem dX10_told_1 : decode cX10_told 1 = .ok (.i2l, 1) := by decide +kernel
theorem dX10_told_2 : decode cX10_told 2 = .ok (.lconst 1, 1) := by decide +kernel
theorem dX10_told_3 : decode cX10_told 3 = .ok (.ldc2_w 150, 3) := by decide +kernel
theorem dX10_told_6 : decode cX10_told 6 = .ok (.invokestatic 67, 3) := by decide +kernel
theorem dX10_told_9 : decode cX10_told 9 = .ok (.ifCond .eq 34, 3) := by decide +kernel
theorem dX10_told_12 : decode cX10_told 12 = .ok (.iload_n 2, 1) := by decide +kernel
theorem dX10_told_13 : decode cX10_told 13 = .ok (.i2l, 1) := by decide +kernel
theorem dX10_told_14 : decode cX10_told 14 = .ok (.lconst 0, 1) := by decide +kernel
theorem dX10_told_15 : decode cX10_told 15 = .ok (.iload_n 1, 1) := by decide +kernel
theorem dX10_told_16 : decode cX10_told 16 = .ok (.i2l, 1) := by decide +kernel
theorem dX10_told_17 : decode cX10_told 17 = .ok (.invokestatic 67, 3) := by decide +kernel
theorem dX10_told_20 : decode cX10_told 20 = .ok (.ifCond .eq 23, 3) := by decide +kernel
theorem dX10_told_23 : decode cX10_told 23 = .ok (.iload_n 3, 1) := by decide +kernel
theorem dX10_told_24 : decode cX10_told 24 = .ok (.i2l, 1) := by decide +kernel
theorem dX10_told_25 : decode cX10_told 25 = .ok (.lconst 0, 1) := by decide +kernel
theorem dX10_told_26 : decode cX10_told 26 = .ok (.ldc2_w 152, 3) := by decide +kernel
theorem dX10_told_29 : decode cX10_told 29 = .ok (.invokestatic 67, 3) := by decide +kernel
theorem dX10_told_32 : decode cX10_told 32 = .ok (.ifCond .eq 11, 3) := by decide +kernel
theorem dX10_told_35 : decode cX10_told 35 = .ok (.iload_n 3, 1) := by decide +kernel
theorem dX10_told_36 : decode cX10_told 36 = .ok (.invokestatic 147, 3) := by decide +kernel
theorem dX10_told_39 : decode cX10_told 39 = .ok (.iconst 3, 1) := by decide +kernel
theorem dX10_told_40 : decode cX10_told 40 = .ok (.if_icmp .le 5, 3) := by decide +kernel
theorem dX10_told_43 : decode cX10_told 43 = .ok (.iconst (-1), 1) := by decide +kernel
theorem dX10_told_44 : decode cX10_told 44 = .ok (.ireturn, 1) := by decide +kernel
theorem dX10_told_45 : decode cX10_told 45 = .ok (.aload_n 0, 1) := by decide +kernel
theorem dX10_told_46 : decode cX10_told 46 = .ok (.getfield 28, 3) := by decide +kernel
theorem dX10_told_49 : decode cX10_told 49 = .ok (.iconst 0, 1) := by decide +kernel
theorem dX10_told_50 : decode cX10_told 50 = .ok (.iaload, 1) := by decide +kernel
theorem dX10_told_51 : decode cX10_told 51 = .ok (.iload_n 1, 1) := by decide +kernel
theorem dX10_told_52 : decode cX10_told 52 = .ok (.iadd, 1) := by decide +kernel
theorem dX10_told_53 : decode cX10_told 53 = .ok (.sipush 999, 3) := by decide +kernel
theorem dX10_told_56 : decode cX10_told 56 = .ok (.if_icmp .le 6, 3) := by decide +kernel
theorem dX10_told_59 : decode cX10_told 59 = .ok (.bipush (-3), 2) := by decide +kernel
theorem dX10_told_61 : decode cX10_told 61 = .ok (.ireturn, 1) := by decide +kernel
theorem dX10_told_62 : decode cX10_told 62 = .ok (.aload_n 0, 1) := by decide +kernel
theorem dX10_told_63 : decode cX10_told 63 = .ok (.invokevirtual 154, 3) := by decide +kernel
theorem dX10_told_66 : decode cX10_told 66 = .ok (.aload_n 0, 1) := by decide +kernel
theorem dX10_told_67 : decode cX10_told 67 = .ok (.getfield 28, 3) := by decide +kernel
theorem dX10_told_70 : decode cX10_told 70 = .ok (.iconst 0, 1) := by decide +kernel
theorem dX10_told_71 : decode cX10_told 71 = .ok (.dup2, 1) := by decide +kernel
theorem dX10_told_72 : decode cX10_told 72 = .ok (.iaload, 1) := by decide +kernel
theorem dX10_told_73 : decode cX10_told 73 = .ok (.iload_n 1, 1) := by decide +kernel
theorem dX10_told_74 : decode cX10_told 74 = .ok (.iadd, 1) := by decide +kernel
theorem dX10_told_75 : decode cX10_told 75 = .ok (.iastore, 1) := by decide +kernel
theorem dX10_told_76 : decode cX10_told 76 = .ok (.aload_n 0, 1) := by decide +kernel
theorem dX10_told_77 : decode cX10_told 77 = .ok (.iload_n 2, 1) := by decide +kernel
theorem dX10_told_78 : decode cX10_told 78 = .ok (.iload_n 3, 1) := by decide +kernel
theorem dX10_told_79 : decode cX10_told 79 = .ok (.invokevirtual 157, 3) := by decide +kernel
theorem dX10_told_82 : decode cX10_told 82 = .ok (.aload_n 0, 1) := by decide +kernel
theorem dX10_told_83 : decode cX10_told 83 = .ok (.getfield 28, 3) := by decide +kernel
theorem dX10_told_86 : decode cX10_told 86 = .ok (.iconst 0, 1) := by decide +kernel
theorem dX10_told_87 : decode cX10_told 87 = .ok (.iaload, 1) := by decide +kernel
theorem dX10_told_88 : decode cX10_told 88 = .ok (.ireturn, 1) := by decide +kernel
theorem dX10_drawn_0 : decode cX10_drawn 0 = .ok (.aload_n 0, 1) := by decide +kernel
theorem dX10_drawn_1 : decode cX10_drawn 1 = .ok (.aload_n 0, 1) := by decide +kernel
theorem dX10_drawn_2 : decode cX10_drawn 2 = .ok (.getfield 161, 3) := by decide +kernel
theorem dX10_drawn_5 : decode cX10_drawn 5 = .ok (.ldc 164, 2) := by decide +kernel
theorem dX10_drawn_7 : decode cX10_drawn 7 = .ok (.imul, 1) := by decide +kernel
theorem dX10_drawn_8 : decode cX10_drawn 8 = .ok (.sipush 12345, 3) := by decide +kernel
theorem dX10_drawn_11 : decode cX10_drawn 11 = .ok (.iadd, 1) := by decide +kernel
theorem dX10_drawn_12 : decode cX10_drawn 12 = .ok (.putfield 161, 3) := by decide +kernel
theorem dX10_drawn_15 : decode cX10_drawn 15 = .ok (.aload_n 0, 1) := by decide +kernel
theorem dX10_drawn_16 : decode cX10_drawn 16 = .ok (.getfield 161, 3) := by decide +kernel
theorem dX10_drawn_19 : decode cX10_drawn 19 = .ok (.bipush 16, 2) := by decide +kernel
theorem dX10_drawn_21 : decode cX10_drawn 21 = .ok (.ishr, 1) := by decide +kernel
theorem dX10_drawn_22 : decode cX10_drawn 22 = .ok (.sipush 32767, 3) := by decide +kernel
theorem dX10_drawn_25 : decode cX10_drawn 25 = .ok (.iand, 1) := by decide +kernel
theorem dX10_drawn_26 : decode cX10_drawn 26 = .ok (.iload_n 1, 1) := by decide +kernel
theorem dX10_drawn_27 : decode cX10_drawn 27 = .ok (.irem, 1) := by decide +kernel
theorem dX10_drawn_28 : decode cX10_drawn 28 = .ok (.ireturn, 1) := by decide +kernel
set_option maxRecDepth 20000 in
theorem ggX10_drawOf_X10_drawn : GoodIn wsX10_drawOf wsX10_drawn := goodIn_r _ [6, 7, 8, 9, 10, 11, 12, 13, 14, 15, 16, 17, 18, 19, 20, 21, 22, 23, 24, 25, 26, 27, 28, 29, 30, 31, 32, 33, 34, 35, 36, 37, 38, 39, 40] (by decide +kernel) (by decide +kernel)
set_option maxRecDepth 20000 in
theorem gX10_drawOf_X10_drawn : GoodIn wsX10_drawOf (wsV RX10 165 RX10 yX10_drawn wsX10_drawn) := goodIn_app (goodIn_of _ (by decide +kernel)) ggX10_drawOf_X10_drawn
theorem dX10_drawOf_0 : decode cX10_drawOf 0 = .ok (.aload_n 0, 1) := by decide +kernel
theorem dX10_drawOf_1 : decode cX10_drawOf 1 = .ok (.getfield 22, 3) := by decide +kernel
theorem dX10_drawOf_4 : decode cX10_drawOf 4 = .ok (.iload_n 1, 1) := by decide +kernel
theorem dX10_drawOf_5 : decode cX10_drawOf 5 = .ok (.iaload, 1) := by decide +kernel
theorem dX10_drawOf_6 : decode cX10_drawOf 6 = .ok (.aload_n 0, 1) := by decide +kernel
theorem dX10_drawOf_7 : decode cX10_drawOf 7 = .ok (.getfield 22, 3) := by decide +kernel
theorem dX10_drawOf_10 : decode cX10_drawOf 10 = .ok (.iload_n 1, 1) := by decide +kernel
theorem dX10_drawOf_11 : decode cX10_drawOf 11 = .ok (.iconst 1, 1) := by decide +kernel
theorem dX10_drawOf_12 : decode cX10_drawOf 12 = .ok (.iadd, 1) := by decide +kernel
theorem dX10_drawOf_13 : decode cX10_drawOf 13 = .ok (.iaload, 1) := by decide +kernel
theorem dX10_drawOf_14 : decode cX10_drawOf 14 = .ok (.iadd, 1) := by decide +kernel
theorem dX10_drawOf_15 : decode cX10_drawOf 15 = .ok (.aload_n 0, 1) := by decide +kernel
theorem dX10_drawOf_16 : decode cX10_drawOf 16 = .ok (.getfield 22, 3) := by decide +kernel
theorem dX10_drawOf_19 : decode cX10_drawOf 19 = .ok (.iload_n 1, 1) := by decide +kernel
theorem dX10_drawOf_20 : decode cX10_drawOf 20 = .ok (.iconst 2, 1) := by decide +kernel
theorem dX10_drawOf_21 : decode cX10_drawOf 21 = .ok (.iadd, 1) := by decide +kernel
theorem dX10_drawOf_22 : decode cX10_drawOf 22 = .ok (.iaload, 1) := by decide +kernel
theorem dX10_drawOf_23 : decode cX10_drawOf 23 = .ok (.iadd, 1) := by decide +kernel
theorem dX10_drawOf_24 : decode cX10_drawOf 24 = .ok (.aload_n 0, 1) := by decide +kernel
theorem dX10_drawOf_25 : decode cX10_drawOf 25 = .ok (.getfield 22, 3) := by decide +kernel
theorem dX10_drawOf_28 : decode cX10_drawOf 28 = .ok (.iload_n 1, 1) := by decide +kernel
theorem dX10_drawOf_29 : decode cX10_drawOf 29 = .ok (.iconst 3, 1) := by decide +kernel
theorem dX10_drawOf_30 : decode cX10_drawOf 30 = .ok (.iadd, 1) := by decide +kernel
theorem dX10_drawOf_31 : decode cX10_drawOf 31 = .ok (.iaload, 1) := by decide +kernel
theorem dX10_drawOf_32 : decode cX10_drawOf 32 = .ok (.iadd, 1) := by decide +kernel
theorem dX10_drawOf_33 : decode cX10_drawOf 33 = .ok (.istore_n 2, 1) := by decide +kernel
theorem dX10_drawOf_34 : decode cX10_drawOf 34 = .ok (.aload_n 0, 1) := by decide +kernel
theorem dX10_drawOf_35 : decode cX10_drawOf 35 = .ok (.iload_n 2, 1) := by decide +kernel
theorem dX10_drawOf_36 : decode cX10_drawOf 36 = .ok (.invokevirtual 165, 3) := by decide +kernel
theorem dX10_drawOf_39 : decode cX10_drawOf 39 = .ok (.istore_n 3, 1) := by decide +kernel
theorem dX10_drawOf_40 : decode cX10_drawOf 40 = .ok (.iconst 0, 1) := by decide +kernel
theorem dX10_drawOf_41 : decode cX10_drawOf 41 = .ok (.istore 4, 2) := by decide +kernel
theorem dX10_drawOf_43 : decode cX10_drawOf 43 = .ok (.iload_n 3, 1) := by decide +kernel
theorem dX10_drawOf_44 : decode cX10_drawOf 44 = .ok (.aload_n 0, 1) := by decide +kernel
theorem dX10_drawOf_45 : decode cX10_drawOf 45 = .ok (.getfield 22, 3) := by decide +kernel
theorem dX10_drawOf_48 : decode cX10_drawOf 48 = .ok (.iload_n 1, 1) := by decide +kernel
theorem dX10_drawOf_49 : decode cX10_drawOf 49 = .ok (.iload 4, 2) := by decide +kernel
theorem dX10_drawOf_51 : decode cX10_drawOf 51 = .ok (.iadd, 1) := by decide +kernel
theorem dX10_drawOf_52 : decode cX10_drawOf 52 = .ok (.iaload, 1) := by decide +kernel
theorem dX10_drawOf_53 : decode cX10_drawOf 53 = .ok (.if_icmp .lt 21, 3) := by decide +kernel
theorem dX10_drawOf_56 : decode cX10_drawOf 56 = .ok (.iload_n 3, 1) := by decide +kernel
theorem dX10_drawOf_57 : decode cX10_drawOf 57 = .ok (.aload_n 0, 1) := by decide +kernel
theorem dX10_drawOf_58 : decode cX10_drawOf 58 = .ok (.getfield 22, 3) := by decide +kernel
theorem dX10_drawOf_61 : decode cX10_drawOf 61 = .ok (.iload_n 1, 1) := by decide +kernel
theorem dX10_drawOf_62 : decode cX10_drawOf 62 = .ok (.iload 4, 2) := by decide +kernel
theorem dX10_drawOf_64 : decode cX10_drawOf 64 = .ok (.iadd, 1) := by decide +kernel
theorem dX10_drawOf_65 : decode cX10_drawOf 65 = .ok (.iaload, 1) := by decide +kernel
theorem dX10_drawOf_66 : decode cX10_drawOf 66 = .ok (.isub, 1) := by decide +kernel
theorem dX10_drawOf_67 : decode cX10_drawOf 67 = .ok (.istore_n 3, 1) := by decide +kernel
theorem dX10_drawOf_68 : decode cX10_drawOf 68 = .ok (.iinc 4 1, 3) := by decide +kernel
theorem dX10_drawOf_71 : decode cX10_drawOf 71 = .ok (.goto (-28), 3) := by decide +kernel
theorem dX10_drawOf_74 : decode cX10_drawOf 74 = .ok (.iload 4, 2) := by decide +kernel
theorem dX10_drawOf_76 : decode cX10_drawOf 76 = .ok (.ireturn, 1) := by decide +kernel
set_option maxRecDepth 20000 in
theorem ggX10_sortie_X10_drawn : GoodIn wsX10_sortie wsX10_drawn := goodIn_r _ [7, 8, 9, 14, 15, 16, 17, 18, 19, 20, 21, 22, 23, 24, 25, 26, 27, 28, 29, 30, 31, 32, 33, 34, 35, 36, 37, 38, 39, 40, 41, 42, 43, 44, 45] (by decide +kernel) (by decide +kernel)
set_option maxRecDepth 20000 in
theorem gX10_sortie_X10_drawn : GoodIn wsX10_sortie (wsV RX10 165 RX10 yX10_drawn wsX10_drawn) := goodIn_app (goodIn_of _ (by decide +kernel)) ggX10_sortie_X10_drawn
set_option maxRecDepth 20000 in
theorem ggX10_sortie_X10_drawOf : GoodIn wsX10_sortie wsX10_drawOf := goodIn_r _ [13, 1, 3, 4, 5, 6, 7, 8, 9, 14, 15, 16, 17, 18, 19, 20, 21, 22, 23, 24, 25, 26, 27, 28, 29, 30, 31, 32, 33, 34, 35, 36, 37, 38, 39, 40, 41, 42, 43, 44, 45] (by decide +kernel) (by decide +kernel)
set_option maxRecDepth 20000 in
theorem gX10_sortie_X10_drawOf : GoodIn wsX10_sortie (wsV RX10 168 RX10 yX10_drawOf wsX10_drawOf) := goodIn_app (goodIn_of _ (by decide +kernel)) ggX10_sortie_X10_drawOf
theorem dX10_sortie_0 : decode cX10_sortie 0 = .ok (.aload_n 0, 1) := by decide +kernel
theorem dX10_sortie_1 : decode cX10_sortie 1 = .ok (.sipush 1000, 3) := by decide +kernel
theorem dX10_sortie_4 : decode cX10_sortie 4 = .ok (.invokevirtual 165, 3) := by decide +kernel
theorem dX10_sortie_7 : decode cX10_sortie 7 = .ok (.aload_n 0, 1) := by decide +kernel
theorem dX10_sortie_8 : decode cX10_sortie 8 = .ok (.getfield 22, 3) := by decide +kernel
theorem dX10_sortie_11 : decode cX10_sortie 11 = .ok (.bipush 16, 2) := by decide +kernel
theorem dX10_sortie_13 : decode cX10_sortie 13 = .ok (.iaload, 1) := by decide +kernel
theorem dX10_sortie_14 : decode cX10_sortie 14 = .ok (.if_icmp .ge 6, 3) := by decide +kernel
theorem dX10_sortie_17 : decode cX10_sortie 17 = .ok (.bipush (-4), 2) := by decide +kernel
theorem dX10_sortie_19 : decode cX10_sortie 19 = .ok (.ireturn, 1) := by decide +kernel
theorem dX10_sortie_20 : decode cX10_sortie 20 = .ok (.aload_n 0, 1) := by decide +kernel
theorem dX10_sortie_21 : decode cX10_sortie 21 = .ok (.bipush 12, 2) := by decide +kernel
theorem dX10_sortie_23 : decode cX10_sortie 23 = .ok (.invokevirtual 168, 3) := by decide +kernel
theorem dX10_sortie_26 : decode cX10_sortie 26 = .ok (.istore_n 1, 1) := by decide +kernel
theorem dX10_sortie_27 : decode cX10_sortie 27 = .ok (.iconst 0, 1) := by decide +kernel
theorem dX10_sortie_28 : decode cX10_sortie 28 = .ok (.istore_n 2, 1) := by decide +kernel
theorem dX10_sortie_29 : decode cX10_sortie 29 = .ok (.iconst 0, 1) := by decide +kernel
theorem dX10_sortie_30 : decode cX10_sortie 30 = .ok (.istore_n 3, 1) := by decide +kernel
theorem dX10_sortie_31 : decode cX10_sortie 31 = .ok (.iload_n 3, 1) := by decide +kernel
theorem dX10_sortie_32 : decode cX10_sortie 32 = .ok (.iload_n 1, 1) := by decide +kernel
theorem dX10_sortie_33 : decode cX10_sortie 33 = .ok (.if_icmp .ge 59, 3) := by decide +kernel
theorem dX10_sortie_36 : decode cX10_sortie 36 = .ok (.aload_n 0, 1) := by decide +kernel
theorem dX10_sortie_37 : decode cX10_sortie 37 = .ok (.iconst 0, 1) := by decide +kernel
theorem dX10_sortie_38 : decode cX10_sortie 38 = .ok (.invokevirtual 168, 3) := by decide +kernel
theorem dX10_sortie_41 : decode cX10_sortie 41 = .ok (.istore 4, 2) := by decide +kernel
theorem dX10_sortie_43 : decode cX10_sortie 43 = .ok (.aload_n 0, 1) := by decide +kernel
theorem dX10_sortie_44 : decode cX10_sortie 44 = .ok (.bipush 10, 2) := by decide +kernel
theorem dX10_sortie_46 : decode cX10_sortie 46 = .ok (.invokevirtual 165, 3) := by decide +kernel
theorem dX10_sortie_49 : decode cX10_sortie 49 = .ok (.aload_n 0, 1) := by decide +kernel
theorem dX10_sortie_50 : decode cX10_sortie 50 = .ok (.getfield 22, 3) := by decide +kernel
theorem dX10_sortie_53 : decode cX10_sortie 53 = .ok (.iconst 4, 1) := by decide +kernel
theorem dX10_sortie_54 : decode cX10_sortie 54 = .ok (.iload 4, 2) := by decide +kernel
theorem dX10_sortie_56 : decode cX10_sortie 56 = .ok (.iadd, 1) := by decide +kernel
theorem dX10_sortie_57 : decode cX10_sortie 57 = .ok (.iaload, 1) := by decide +kernel
theorem dX10_sortie_58 : decode cX10_sortie 58 = .ok (.if_icmp .ge 17, 3) := by decide +kernel
theorem dX10_sortie_61 : decode cX10_sortie 61 = .ok (.aload_n 0, 1) := by decide +kernel
theorem dX10_sortie_62 : decode cX10_sortie 62 = .ok (.getfield 28, 3) := by decide +kernel
theorem dX10_sortie_65 : decode cX10_sortie 65 = .ok (.bipush 9, 2) := by decide +kernel
theorem dX10_sortie_67 : decode cX10_sortie 67 = .ok (.dup2, 1) := by decide +kernel
theorem dX10_sortie_68 : decode cX10_sortie 68 = .ok (.iaload, 1) := by decide +kernel
theorem dX10_sortie_69 : decode cX10_sortie 69 = .ok (.iconst 1, 1) := by decide +kernel
theorem dX10_sortie_70 : decode cX10_sortie 70 = .ok (.iadd, 1) := by decide +kernel
theorem dX10_sortie_71 : decode cX10_sortie 71 = .ok (.iastore, 1) := by decide +kernel
theorem dX10_sortie_72 : decode cX10_sortie 72 = .ok (.bipush (-4), 2) := by decide +kernel
theorem dX10_sortie_74 : decode cX10_sortie 74 = .ok (.ireturn, 1) := by decide +kernel
theorem dX10_sortie_75 : decode cX10_sortie 75 = .ok (.iload_n 2, 1) := by decide +kernel
theorem dX10_sortie_76 : decode cX10_sortie 76 = .ok (.iconst 1, 1) := by decide +kernel
theorem dX10_sortie_77 : decode cX10_sortie 77 = .ok (.iconst 2, 1) := by decide +kernel
theorem dX10_sortie_78 : decode cX10_sortie 78 = .ok (.iconst 3, 1) := by decide +kernel
theorem dX10_sortie_79 : decode cX10_sortie 79 = .ok (.iload 4, 2) := by decide +kernel
theorem dX10_sortie_81 : decode cX10_sortie 81 = .ok (.isub, 1) := by decide +kernel
theorem dX10_sortie_82 : decode cX10_sortie 82 = .ok (.imul, 1) := by decide +kernel
theorem dX10_sortie_83 : decode cX10_sortie 83 = .ok (.ishl, 1) := by decide +kernel
theorem dX10_sortie_84 : decode cX10_sortie 84 = .ok (.iadd, 1) := by decide +kernel
theorem dX10_sortie_85 : decode cX10_sortie 85 = .ok (.istore_n 2, 1) := by decide +kernel
theorem dX10_sortie_86 : decode cX10_sortie 86 = .ok (.iinc 3 1, 3) := by decide +kernel
theorem dX10_sortie_89 : decode cX10_sortie 89 = .ok (.goto (-58), 3) := by decide +kernel
theorem dX10_sortie_92 : decode cX10_sortie 92 = .ok (.iload_n 2, 1) := by decide +kernel
theorem dX10_sortie_93 : decode cX10_sortie 93 = .ok (.ireturn, 1) := by decide +kernel
set_option maxRecDepth 20000 in
theorem ggX10_draw_X10_in : GoodIn wsX10_draw wsX10_in := goodIn_r _ [6] (by decide +kernel) (by decide +kernel)
set_option maxRecDepth 20000 in
theorem gX10_draw_X10_in : GoodIn wsX10_draw (va_wsS RX10 67 yX10_in wsX10_in) := goodIn_app (goodIn_of _ (by decide +kernel)) ggX10_draw_X10_in
set_option maxRecDepth 20000 in
theorem ggX10_draw_X10_acts : GoodIn wsX10_draw wsX10_acts := goodIn_r _ [10, 11, 12, 2, 13, 39, 40, 41, 42, 43, 44, 45, 46, 47, 48, 49, 50, 51, 52, 53, 54, 55, 56, 57, 58, 59, 60, 61, 62, 63, 64, 65, 66, 67, 68, 69, 70] (by decide +kernel) (by decide +kernel)
set_option maxRecDepth 20000 in
theorem gX10_draw_X10_acts : GoodIn wsX10_draw (wsV RX10 154 RX10 yX10_acts wsX10_acts) := goodIn_app (goodIn_of _ (by decide +kernel)) ggX10_draw_X10_acts
set_option maxRecDepth 20000 in
theorem ggX10_draw_X10_sortie : GoodIn wsX10_draw wsX10_sortie := goodIn_r _ [17, 18, 2, 19, 20, 21, 5, 22, 23, 24, 25, 26, 27, 28, 39, 40, 41, 42, 43, 44, 45, 46, 47, 48, 49, 50, 51, 52, 53, 54, 55, 56, 57, 58, 59, 60, 61, 62, 63, 64, 65, 66, 67, 68, 69, 70] (by decide +kernel) (by decide +kernel)
set_option maxRecDepth 20000 in
theorem gX10_draw_X10_sortie : GoodIn wsX10_draw (wsV RX10 171 RX10 yX10_sortie wsX10_sortie) := goodIn_app (goodIn_of _ (by decide +kernel)) ggX10_draw_X10_sortie
set_option maxRecDepth 20000 in
theorem ggX10_draw_X10_home : GoodIn wsX10_draw wsX10_home := goodIn_r _ [32, 2, 33, 34, 5, 35, 36, 37, 38, 39, 40, 41, 42, 43, 44, 45, 46, 47, 48, 49, 50, 51, 52, 53, 54, 55, 56, 57, 58, 59, 60, 61, 62, 63, 64, 65, 66, 67, 68, 69, 70] (by decide +kernel) (by decide +kernel)
set_option maxRecDepth 20000 in
theorem gX10_draw_X10_home : GoodIn wsX10_draw (wsV RX10 157 RX10 yX10_home wsX10_home) := goodIn_app (goodIn_of _ (by decide +kernel)) ggX10_draw_X10_home
theorem dX10_draw_0 : decode cX10_draw 0 = .ok (.iload_n 1, 1) := by decide +kernel
theorem dX10_draw_1 : decode cX10_draw 1 = .ok (.i2l, 1) := by decide +kernel
theorem dX10_draw_2 : decode cX10_draw 2 = .ok (.lconst 1, 1) := by decide +kernel
theorem dX10_draw_3 : decode cX10_draw 3 = .ok (.ldc2_w 150, 3) := by decide +kernel
theorem dX10_draw_6 : decode cX10_draw 6 = .ok (.invokestatic 67, 3) := by decide +kernel
theorem dX10_draw_9 : decode cX10_draw 9 = .ok (.ifCond .ne 5, 3) := by decide +kernel
theorem dX10_draw_12 : decode cX10_draw 12 = .ok (.iconst (-1), 1) := by decide +kernel
theorem dX10_draw_13 : decode cX10_draw 13 = .ok (.ireturn, 1) := by decide +kernel
theorem dX10_draw_14 : decode cX10_draw 14 = .ok (.aload_n 0, 1) := by decide +kernel
theorem dX10_draw_15 : decode cX10_draw 15 = .ok (.getfield 28, 3) := by decide +kernel
theorem dX10_draw_18 : decode cX10_draw 18 = .ok (.iconst 0, 1) := by decide +kernel
theorem dX10_draw_19 : decode cX10_draw 19 = .ok (.iaload, 1) := by decide +kernel
theorem dX10_draw_20 : decode cX10_draw 20 = .ok (.iload_n 1, 1) := by decide +kernel
theorem dX10_draw_21 : decode cX10_draw 21 = .ok (.iadd, 1) := by decide +kernel
theorem dX10_draw_22 : decode cX10_draw 22 = .ok (.sipush 999, 3) := by decide +kernel
theorem dX10_draw_25 : decode cX10_draw 25 = .ok (.if_icmp .le 6, 3) := by decide +kernel
theorem dX10_draw_28 : decode cX10_draw 28 = .ok (.bipush (-3), 2) := by decide +kernel
theorem dX10_draw_30 : decode cX10_draw 30 = .ok (.ireturn, 1) := by decide +kernel
theorem dX10_draw_31 : decode cX10_draw 31 = .ok (.aload_n 0, 1) := by decide +kernel
theorem dX10_draw_32 : decode cX10_draw 32 = .ok (.invokevirtual 154, 3) := by decide +kernel
theorem dX10_draw_35 : decode cX10_draw 35 = .ok (.iconst 0, 1) := by decide +kernel
theorem dX10_draw_36 : decode cX10_draw 36 = .ok (.istore_n 2, 1) := by decide +kernel
theorem dX10_draw_37 : decode cX10_draw 37 = .ok (.iconst 0, 1) := by decide +kernel
theorem dX10_draw_38 : decode cX10_draw 38 = .ok (.istore_n 3, 1) := by decide +kernel
theorem dX10_draw_39 : decode cX10_draw 39 = .ok (.iload_n 3, 1) := by decide +kernel
theorem dX10_draw_40 : decode cX10_draw 40 = .ok (.iload_n 1, 1) := by decide +kernel
theorem dX10_draw_41 : decode cX10_draw 41 = .ok (.if_icmp .ge 42, 3) := by decide +kernel
theorem dX10_draw_44 : decode cX10_draw 44 = .ok (.aload_n 0, 1) := by decide +kernel
theorem dX10_draw_45 : decode cX10_draw 45 = .ok (.invokevirtual 171, 3) := by decide +kernel
theorem dX10_draw_48 : decode cX10_draw 48 = .ok (.istore 4, 2) := by decide +kernel
theorem dX10_draw_50 : decode cX10_draw 50 = .ok (.aload_n 0, 1) := by decide +kernel
theorem dX10_draw_51 : decode cX10_draw 51 = .ok (.getfield 28, 3) := by decide +kernel
theorem dX10_draw_54 : decode cX10_draw 54 = .ok (.iconst 0, 1) := by decide +kernel
theorem dX10_draw_55 : decode cX10_draw 55 = .ok (.dup2, 1) := by decide +kernel
theorem dX10_draw_56 : decode cX10_draw 56 = .ok (.iaload, 1) := by decide +kernel
theorem dX10_draw_57 : decode cX10_draw 57 = .ok (.iconst 1, 1) := by decide +kernel
theorem dX10_draw_58 : decode cX10_draw 58 = .ok (.iadd, 1) := by decide +kernel
theorem dX10_draw_59 : decode cX10_draw 59 = .ok (.iastore, 1) := by decide +kernel
theorem dX10_draw_60 : decode cX10_draw 60 = .ok (.iload 4, 2) := by decide +kernel
theorem dX10_draw_62 : decode cX10_draw 62 = .ok (.bipush (-4), 2) := by decide +kernel
theorem dX10_draw_64 : decode cX10_draw 64 = .ok (.if_icmp .eq 13, 3) := by decide +kernel
theorem dX10_draw_67 : decode cX10_draw 67 = .ok (.aload_n 0, 1) := by decide +kernel
theorem dX10_draw_68 : decode cX10_draw 68 = .ok (.iconst 1, 1) := by decide +kernel
theorem dX10_draw_69 : decode cX10_draw 69 = .ok (.iload 4, 2) := by decide +kernel
theorem dX10_draw_71 : decode cX10_draw 71 = .ok (.invokevirtual 157, 3) := by decide +kernel
theorem dX10_draw_74 : decode cX10_draw 74 = .ok (.iinc 2 1, 3) := by decide +kernel
theorem dX10_draw_77 : decode cX10_draw 77 = .ok (.iinc 3 1, 3) := by decide +kernel
theorem dX10_draw_80 : decode cX10_draw 80 = .ok (.goto (-41), 3) := by decide +kernel
theorem dX10_draw_83 : decode cX10_draw 83 = .ok (.iload_n 2, 1) := by decide +kernel
theorem dX10_draw_84 : decode cX10_draw 84 = .ok (.ireturn, 1) := by decide +kernel
theorem dX10_seed_0 : decode cX10_seed 0 = .ok (.aload_n 0, 1) := by decide +kernel
theorem dX10_seed_1 : decode cX10_seed 1 = .ok (.getfield 161, 3) := by decide +kernel
theorem dX10_seed_4 : decode cX10_seed 4 = .ok (.istore_n 2, 1) := by decide +kernel
theorem dX10_seed_5 : decode cX10_seed 5 = .ok (.aload_n 0, 1) := by decide +kernel
theorem dX10_seed_6 : decode cX10_seed 6 = .ok (.iload_n 1, 1) := by decide +kernel
theorem dX10_seed_7 : decode cX10_seed 7 = .ok (.putfield 161, 3) := by decide +kernel
theorem dX10_seed_10 : decode cX10_seed 10 = .ok (.iload_n 2, 1) := by decide +kernel
theorem dX10_seed_11 : decode cX10_seed 11 = .ok (.ireturn, 1) := by decide +kernel
set_option maxRecDepth 20000 in
theorem ggX10_wreck_X10_isPart : GoodIn wsX10_wreck wsX10_isPart := goodIn_r _ [6, 7, 8, 9, 5, 10] (by decide +kernel) (by decide +kernel)
set_option maxRecDepth 20000 in
theorem gX10_wreck_X10_isPart : GoodIn wsX10_wreck (va_wsS RX10 132 yX10_isPart wsX10_isPart) := goodIn_app (goodIn_of _ (by decide +kernel)) ggX10_wreck_X10_isPart
theorem dX10_wreck_0 : decode cX10_wreck 0 = .ok (.iload_n 1, 1) := by decide +kernel
theorem dX10_wreck_1 : decode cX10_wreck 1 = .ok (.invokestatic 132, 3) := by decide +kernel
theorem dX10_wreck_4 : decode cX10_wreck 4 = .ok (.ifCond .ne 5, 3) := by decide +kernel
theorem dX10_wreck_7 : decode cX10_wreck 7 = .ok (.iconst (-1), 1) := by decide +kernel
theorem dX10_wreck_8 : decode cX10_wreck 8 = .ok (.ireturn, 1) := by decide +kernel
theorem dX10_wreck_9 : decode cX10_wreck 9 = .ok (.aload_n 0, 1) := by decide +kernel
theorem dX10_wreck_10 : decode cX10_wreck 10 = .ok (.getfield 34, 3) := by decide +kernel
theorem dX10_wreck_13 : decode cX10_wreck 13 = .ok (.iload_n 1, 1) := by decide +kernel
theorem dX10_wreck_14 : decode cX10_wreck 14 = .ok (.baload, 1) := by decide +kernel
theorem dX10_wreck_15 : decode cX10_wreck 15 = .ok (.ifCond .eq 7, 3) := by decide +kernel
theorem dX10_wreck_18 : decode cX10_wreck 18 = .ok (.iconst 1, 1) := by decide +kernel
theorem dX10_wreck_19 : decode cX10_wreck 19 = .ok (.goto 4, 3) := by decide +kernel
theorem dX10_wreck_22 : decode cX10_wreck 22 = .ok (.iconst 0, 1) := by decide +kernel
theorem dX10_wreck_23 : decode cX10_wreck 23 = .ok (.istore_n 3, 1) := by decide +kernel
theorem dX10_wreck_24 : decode cX10_wreck 24 = .ok (.aload_n 0, 1) := by decide +kernel
theorem dX10_wreck_25 : decode cX10_wreck 25 = .ok (.getfield 34, 3) := by decide +kernel
theorem dX10_wreck_28 : decode cX10_wreck 28 = .ok (.iload_n 1, 1) := by decide +kernel
theorem dX10_wreck_29 : decode cX10_wreck 29 = .ok (.iload_n 2, 1) := by decide +kernel
theorem dX10_wreck_30 : decode cX10_wreck 30 = .ok (.bastore, 1) := by decide +kernel
theorem dX10_wreck_31 : decode cX10_wreck 31 = .ok (.aload_n 0, 1) := by decide +kernel
theorem dX10_wreck_32 : decode cX10_wreck 32 = .ok (.iconst 1, 1) := by decide +kernel
theorem dX10_wreck_33 : decode cX10_wreck 33 = .ok (.putfield 47, 3) := by decide +kernel
theorem dX10_wreck_36 : decode cX10_wreck 36 = .ok (.iload_n 3, 1) := by decide +kernel
theorem dX10_wreck_37 : decode cX10_wreck 37 = .ok (.ireturn, 1) := by decide +kernel
set_option maxRecDepth 20000 in
theorem ggX10_ground_X10_isPart : GoodIn wsX10_ground wsX10_isPart := goodIn_r _ [8, 9, 10, 11, 7, 12] (by decide +kernel) (by decide +kernel)
set_option maxRecDepth 20000 in
theorem gX10_ground_X10_isPart : GoodIn wsX10_ground (va_wsS RX10 132 yX10_isPart wsX10_isPart) := goodIn_app (goodIn_of _ (by decide +kernel)) ggX10_ground_X10_isPart
set_option maxRecDepth 20000 in
theorem ggX10_ground_X10_in : GoodIn wsX10_ground wsX10_in := goodIn_r _ [12] (by decide +kernel) (by decide +kernel)
set_option maxRecDepth 20000 in
theorem gX10_ground_X10_in : GoodIn wsX10_ground (va_wsS RX10 67 yX10_in wsX10_in) := goodIn_app (goodIn_of _ (by decide +kernel)) ggX10_ground_X10_in
theorem dX10_ground_0 : decode cX10_ground 0 = .ok (.iload_n 1, 1) := by decide +kernel
theorem dX10_ground_1 : decode cX10_ground 1 = .ok (.invokestatic 132, 3) := by decide +kernel
theorem dX10_ground_4 : decode cX10_ground 4 = .ok (.ifCond .eq 26, 3) := by decide +kernel
theorem dX10_ground_7 : decode cX10_ground 7 = .ok (.iload_n 2, 1) := by decide +kernel
theorem dX10_ground_8 : decode cX10_ground 8 = .ok (.i2l, 1) := by decide +kernel
theorem dX10_ground_9 : decode cX10_ground 9 = .ok (.lconst 0, 1) := by decide +kernel
theorem dX10_ground_10 : decode cX10_ground 10 = .ok (.ldc2_w 174, 3) := by decide +kernel
theorem dX10_ground_13 : decode cX10_ground 13 = .ok (.invokestatic 67, 3) := by decide +kernel
theorem dX10_ground_16 : decode cX10_ground 16 = .ok (.ifCond .eq 14, 3) := by decide +kernel
theorem dX10_ground_19 : decode cX10_ground 19 = .ok (.iload_n 3, 1) := by decide +kernel
theorem dX10_ground_20 : decode cX10_ground 20 = .ok (.i2l, 1) := by decide +kernel
theorem dX10_ground_21 : decode cX10_ground 21 = .ok (.lconst 0, 1) := by decide +kernel
theorem dX10_ground_22 : decode cX10_ground 22 = .ok (.iload_n 2, 1) := by decide +kernel
theorem dX10_ground_23 : decode cX10_ground 23 = .ok (.i2l, 1) := by decide +kernel
theorem dX10_ground_24 : decode cX10_ground 24 = .ok (.invokestatic 67, 3) := by decide +kernel
theorem dX10_ground_27 : decode cX10_ground 27 = .ok (.ifCond .ne 5, 3) := by decide +kernel
theorem dX10_ground_30 : decode cX10_ground 30 = .ok (.iconst (-1), 1) := by decide +kernel
theorem dX10_ground_31 : decode cX10_ground 31 = .ok (.ireturn, 1) := by decide +kernel
theorem dX10_ground_32 : decode cX10_ground 32 = .ok (.aload_n 0, 1) := by decide +kernel
theorem dX10_ground_33 : decode cX10_ground 33 = .ok (.getfield 38, 3) := by decide +kernel
theorem dX10_ground_36 : decode cX10_ground 36 = .ok (.iload_n 1, 1) := by decide +kernel
theorem dX10_ground_37 : decode cX10_ground 37 = .ok (.iaload, 1) := by decide +kernel
theorem dX10_ground_38 : decode cX10_ground 38 = .ok (.istore 4, 2) := by decide +kernel
theorem dX10_ground_40 : decode cX10_ground 40 = .ok (.aload_n 0, 1) := by decide +kernel
theorem dX10_ground_41 : decode cX10_ground 41 = .ok (.getfield 38, 3) := by decide +kernel
theorem dX10_ground_44 : decode cX10_ground 44 = .ok (.iload_n 1, 1) := by decide +kernel
theorem dX10_ground_45 : decode cX10_ground 45 = .ok (.iload_n 2, 1) := by decide +kernel
theorem dX10_ground_46 : decode cX10_ground 46 = .ok (.iastore, 1) := by decide +kernel
theorem dX10_ground_47 : decode cX10_ground 47 = .ok (.aload_n 0, 1) := by decide +kernel
theorem dX10_ground_48 : decode cX10_ground 48 = .ok (.getfield 41, 3) := by decide +kernel
theorem dX10_ground_51 : decode cX10_ground 51 = .ok (.iload_n 1, 1) := by decide +kernel
theorem dX10_ground_52 : decode cX10_ground 52 = .ok (.iload_n 3, 1) := by decide +kernel
theorem dX10_ground_53 : decode cX10_ground 53 = .ok (.iastore, 1) := by decide +kernel
theorem dX10_ground_54 : decode cX10_ground 54 = .ok (.aload_n 0, 1) := by decide +kernel
theorem dX10_ground_55 : decode cX10_ground 55 = .ok (.iconst 1, 1) := by decide +kernel
theorem dX10_ground_56 : decode cX10_ground 56 = .ok (.putfield 47, 3) := by decide +kernel
theorem dX10_ground_59 : decode cX10_ground 59 = .ok (.iload 4, 2) := by decide +kernel
theorem dX10_ground_61 : decode cX10_ground 61 = .ok (.ireturn, 1) := by decide +kernel
theorem dX10_homes_0 : decode cX10_homes 0 = .ok (.aload_n 0, 1) := by decide +kernel
theorem dX10_homes_1 : decode cX10_homes 1 = .ok (.getfield 28, 3) := by decide +kernel
theorem dX10_homes_4 : decode cX10_homes 4 = .ok (.iconst 1, 1) := by decide +kernel
theorem dX10_homes_5 : decode cX10_homes 5 = .ok (.iaload, 1) := by decide +kernel
theorem dX10_homes_6 : decode cX10_homes 6 = .ok (.aload_n 0, 1) := by decide +kernel
theorem dX10_homes_7 : decode cX10_homes 7 = .ok (.getfield 28, 3) := by decide +kernel
theorem dX10_homes_10 : decode cX10_homes 10 = .ok (.iconst 2, 1) := by decide +kernel
theorem dX10_homes_11 : decode cX10_homes 11 = .ok (.iaload, 1) := by decide +kernel
theorem dX10_homes_12 : decode cX10_homes 12 = .ok (.iadd, 1) := by decide +kernel
theorem dX10_homes_13 : decode cX10_homes 13 = .ok (.aload_n 0, 1) := by decide +kernel
theorem dX10_homes_14 : decode cX10_homes 14 = .ok (.getfield 28, 3) := by decide +kernel
theorem dX10_homes_17 : decode cX10_homes 17 = .ok (.iconst 3, 1) := by decide +kernel
theorem dX10_homes_18 : decode cX10_homes 18 = .ok (.iaload, 1) := by decide +kernel
theorem dX10_homes_19 : decode cX10_homes 19 = .ok (.iadd, 1) := by decide +kernel
theorem dX10_homes_20 : decode cX10_homes 20 = .ok (.aload_n 0, 1) := by decide +kernel
theorem dX10_homes_21 : decode cX10_homes 21 = .ok (.getfield 28, 3) := by decide +kernel
theorem dX10_homes_24 : decode cX10_homes 24 = .ok (.iconst 4, 1) := by decide +kernel
theorem dX10_homes_25 : decode cX10_homes 25 = .ok (.iaload, 1) := by decide +kernel
theorem dX10_homes_26 : decode cX10_homes 26 = .ok (.iadd, 1) := by decide +kernel
theorem dX10_homes_27 : decode cX10_homes 27 = .ok (.ireturn, 1) := by decide +kernel
set_option maxRecDepth 20000 in
theorem ggX10_known_X10_in : GoodIn wsX10_known wsX10_in := goodIn_r _ [6] (by decide +kernel) (by decide +kernel)
set_option maxRecDepth 20000 in
theorem gX10_known_X10_in : GoodIn wsX10_known (va_wsS RX10 67 yX10_in wsX10_in) := goodIn_app (goodIn_of _ (by decide +kernel)) ggX10_known_X10_in
set_option maxRecDepth 20000 in
theorem ggX10_known_X10_homes : GoodIn wsX10_known wsX10_homes := goodIn_r _ [10, 2, 11, 12, 13, 14, 15, 16, 17, 18, 19, 20, 21, 22, 23, 24, 25, 26, 27, 28, 29, 30, 31, 32, 33, 34, 35, 36, 37, 38, 39, 40, 41, 42] (by decide +kernel) (by decide +kernel)
set_option maxRecDepth 20000 in
theorem gX10_known_X10_homes : GoodIn wsX10_known (wsV RX10 178 RX10 yX10_homes wsX10_homes) := goodIn_app (goodIn_of _ (by decide +kernel)) ggX10_known_X10_homes
theorem dX10_known_0 : decode cX10_known 0 = .ok (.iload_n 1, 1) := by decide +kernel
theorem dX10_known_1 : decode cX10_known 1 = .ok (.i2l, 1) := by decide +kernel
theorem dX10_known_2 : decode cX10_known 2 = .ok (.lconst 0, 1) := by decide +kernel
theorem dX10_known_3 : decode cX10_known 3 = .ok (.ldc2_w 176, 3) := by decide +kernel
theorem dX10_known_6 : decode cX10_known 6 = .ok (.invokestatic 67, 3) := by decide +kernel
theorem dX10_known_9 : decode cX10_known 9 = .ok (.ifCond .eq 12, 3) := by decide +kernel
theorem dX10_known_12 : decode cX10_known 12 = .ok (.aload_n 0, 1) := by decide +kernel
theorem dX10_known_13 : decode cX10_known 13 = .ok (.getfield 28, 3) := by decide +kernel
theorem dX10_known_16 : decode cX10_known 16 = .ok (.iload_n 1, 1) := by decide +kernel
theorem dX10_known_17 : decode cX10_known 17 = .ok (.iaload, 1) := by decide +kernel
theorem dX10_known_18 : decode cX10_known 18 = .ok (.goto 24, 3) := by decide +kernel
theorem dX10_known_21 : decode cX10_known 21 = .ok (.iload_n 1, 1) := by decide +kernel
theorem dX10_known_22 : decode cX10_known 22 = .ok (.bipush 9, 2) := by decide +kernel
theorem dX10_known_24 : decode cX10_known 24 = .ok (.if_icmp .ne 17, 3) := by decide +kernel
theorem dX10_known_27 : decode cX10_known 27 = .ok (.aload_n 0, 1) := by decide +kernel
theorem dX10_known_28 : decode cX10_known 28 = .ok (.getfield 28, 3) := by decide +kernel
theorem dX10_known_31 : decode cX10_known 31 = .ok (.iconst 0, 1) := by decide +kernel
theorem dX10_known_32 : decode cX10_known 32 = .ok (.iaload, 1) := by decide +kernel
theorem dX10_known_33 : decode cX10_known 33 = .ok (.aload_n 0, 1) := by decide +kernel
theorem dX10_known_34 : decode cX10_known 34 = .ok (.invokevirtual 178, 3) := by decide +kernel
theorem dX10_known_37 : decode cX10_known 37 = .ok (.isub, 1) := by decide +kernel
theorem dX10_known_38 : decode cX10_known 38 = .ok (.goto 4, 3) := by decide +kernel
theorem dX10_known_41 : decode cX10_known 41 = .ok (.iconst (-1), 1) := by decide +kernel
theorem dX10_known_42 : decode cX10_known 42 = .ok (.ireturn, 1) := by decide +kernel
theorem dX10_undo_0 : decode cX10_undo 0 = .ok (.aload_n 0, 1) := by decide +kernel
theorem dX10_undo_1 : decode cX10_undo 1 = .ok (.getfield 140, 3) := by decide +kernel
theorem dX10_undo_4 : decode cX10_undo 4 = .ok (.ifCond .ne 6, 3) := by decide +kernel
theorem dX10_undo_7 : decode cX10_undo 7 = .ok (.bipush (-4), 2) := by decide +kernel
theorem dX10_undo_9 : decode cX10_undo 9 = .ok (.ireturn, 1) := by decide +kernel
theorem dX10_undo_10 : decode cX10_undo 10 = .ok (.aload_n 0, 1) := by decide +kernel
theorem dX10_undo_11 : decode cX10_undo 11 = .ok (.dup, 1) := by decide +kernel
theorem dX10_undo_12 : decode cX10_undo 12 = .ok (.getfield 140, 3) := by decide +kernel
theorem dX10_undo_15 : decode cX10_undo 15 = .ok (.iconst 1, 1) := by decide +kernel
theorem dX10_undo_16 : decode cX10_undo 16 = .ok (.isub, 1) := by decide +kernel
theorem dX10_undo_17 : decode cX10_undo 17 = .ok (.putfield 140, 3) := by decide +kernel
theorem dX10_undo_20 : decode cX10_undo 20 = .ok (.iconst 0, 1) := by decide +kernel
theorem dX10_undo_21 : decode cX10_undo 21 = .ok (.istore_n 1, 1) := by decide +kernel
theorem dX10_undo_22 : decode cX10_undo 22 = .ok (.iload_n 1, 1) := by decide +kernel
theorem dX10_undo_23 : decode cX10_undo 23 = .ok (.bipush 10, 2) := by decide +kernel
theorem dX10_undo_25 : decode cX10_undo 25 = .ok (.if_icmp .ge 29, 3) := by decide +kernel
theorem dX10_undo_28 : decode cX10_undo 28 = .ok (.aload_n 0, 1) := by decide +kernel
theorem dX10_undo_29 : decode cX10_undo 29 = .ok (.getfield 28, 3) := by decide +kernel
theorem dX10_undo_32 : decode cX10_undo 32 = .ok (.iload_n 1, 1) := by decide +kernel
theorem dX10_undo_33 : decode cX10_undo 33 = .ok (.aload_n 0, 1) := by decide +kernel
theorem dX10_undo_34 : decode cX10_undo 34 = .ok (.getfield 31, 3) := by decide +kernel
theorem dX10_undo_37 : decode cX10_undo 37 = .ok (.bipush 10, 2) := by decide +kernel
theorem dX10_undo_39 : decode cX10_undo 39 = .ok (.aload_n 0, 1) := by decide +kernel
theorem dX10_undo_40 : decode cX10_undo 40 = .ok (.getfield 140, 3) := by decide +kernel
theorem dX10_undo_43 : decode cX10_undo 43 = .ok (.imul, 1) := by decide +kernel
theorem dX10_undo_44 : decode cX10_undo 44 = .ok (.iload_n 1, 1) := by decide +kernel
theorem dX10_undo_45 : decode cX10_undo 45 = .ok (.iadd, 1) := by decide +kernel
theorem dX10_undo_46 : decode cX10_undo 46 = .ok (.iaload, 1) := by decide +kernel
theorem dX10_undo_47 : decode cX10_undo 47 = .ok (.iastore, 1) := by decide +kernel
theorem dX10_undo_48 : decode cX10_undo 48 = .ok (.iinc 1 1, 3) := by decide +kernel
theorem dX10_undo_51 : decode cX10_undo 51 = .ok (.goto (-29), 3) := by decide +kernel
theorem dX10_undo_54 : decode cX10_undo 54 = .ok (.aload_n 0, 1) := by decide +kernel
theorem dX10_undo_55 : decode cX10_undo 55 = .ok (.iconst 1, 1) := by decide +kernel
theorem dX10_undo_56 : decode cX10_undo 56 = .ok (.putfield 47, 3) := by decide +kernel
theorem dX10_undo_59 : decode cX10_undo 59 = .ok (.aload_n 0, 1) := by decide +kernel
theorem dX10_undo_60 : decode cX10_undo 60 = .ok (.getfield 140, 3) := by decide +kernel
theorem dX10_undo_63 : decode cX10_undo 63 = .ok (.ireturn, 1) := by decide +kernel
set_option maxRecDepth 20000 in
theorem ggX10_isLaw_X10_in : GoodIn wsX10_isLaw wsX10_in := goodIn_r _ [5] (by decide +kernel) (by decide +kernel)
set_option maxRecDepth 20000 in
theorem gX10_isLaw_X10_in : GoodIn wsX10_isLaw (va_wsS RX10 67 yX10_in wsX10_in) := goodIn_app (goodIn_of _ (by decide +kernel)) ggX10_isLaw_X10_in
theorem dX10_isLaw_0 : decode cX10_isLaw 0 = .ok (.iload_n 0, 1) := by decide +kernel
theorem dX10_isLaw_1 : decode cX10_isLaw 1 = .ok (.i2l, 1) := by decide +kernel
theorem dX10_isLaw_2 : decode cX10_isLaw 2 = .ok (.lconst 0, 1) := by decide +kernel
theorem dX10_isLaw_3 : decode cX10_isLaw 3 = .ok (.ldc2_w 181, 3) := by decide +kernel
theorem dX10_isLaw_6 : decode cX10_isLaw 6 = .ok (.invokestatic 67, 3) := by decide +kernel
theorem dX10_isLaw_9 : decode cX10_isLaw 9 = .ok (.ireturn, 1) := by decide +kernel
theorem dX10_layLaw_0 : decode cX10_layLaw 0 = .ok (.iload_n 1, 1) := by decide +kernel
theorem dX10_layLaw_1 : decode cX10_layLaw 1 = .ok (.istore_n 2, 1) := by decide +kernel
theorem dX10_layLaw_2 : decode cX10_layLaw 2 = .ok (.aload_n 0, 1) := by decide +kernel
theorem dX10_layLaw_3 : decode cX10_layLaw 3 = .ok (.lconst 0, 1) := by decide +kernel
theorem dX10_layLaw_4 : decode cX10_layLaw 4 = .ok (.putfield 183, 3) := by decide +kernel
theorem dX10_layLaw_7 : decode cX10_layLaw 7 = .ok (.aload_n 0, 1) := by decide +kernel
theorem dX10_layLaw_8 : decode cX10_layLaw 8 = .ok (.lconst 0, 1) := by decide +kernel
theorem dX10_layLaw_9 : decode cX10_layLaw 9 = .ok (.putfield 187, 3) := by decide +kernel
theorem dX10_layLaw_12 : decode cX10_layLaw 12 = .ok (.iconst 3, 1) := by decide +kernel
theorem dX10_layLaw_13 : decode cX10_layLaw 13 = .ok (.istore_n 3, 1) := by decide +kernel
theorem dX10_layLaw_14 : decode cX10_layLaw 14 = .ok (.iload_n 3, 1) := by decide +kernel
theorem dX10_layLaw_15 : decode cX10_layLaw 15 = .ok (.ifCond .lt 70, 3) := by decide +kernel
theorem dX10_layLaw_18 : decode cX10_layLaw 18 = .ok (.aload_n 0, 1) := by decide +kernel
theorem dX10_layLaw_19 : decode cX10_layLaw 19 = .ok (.getfield 44, 3) := by decide +kernel
theorem dX10_layLaw_22 : decode cX10_layLaw 22 = .ok (.iload_n 3, 1) := by decide +kernel
theorem dX10_layLaw_23 : decode cX10_layLaw 23 = .ok (.iload_n 2, 1) := by decide +kernel
theorem dX10_layLaw_24 : decode cX10_layLaw 24 = .ok (.bipush 11, 2) := by decide +kernel
theorem dX10_layLaw_26 : decode cX10_layLaw 26 = .ok (.irem, 1) := by decide +kernel
theorem dX10_layLaw_27 : decode cX10_layLaw 27 = .ok (.iastore, 1) := by decide +kernel
theorem dX10_layLaw_28 : decode cX10_layLaw 28 = .ok (.iload_n 2, 1) := by decide +kernel
theorem dX10_layLaw_29 : decode cX10_layLaw 29 = .ok (.bipush 11, 2) := by decide +kernel
theorem dX10_layLaw_31 : decode cX10_layLaw 31 = .ok (.idiv, 1) := by decide +kernel
theorem dX10_layLaw_32 : decode cX10_layLaw 32 = .ok (.istore_n 2, 1) := by decide +kernel
theorem dX10_layLaw_33 : decode cX10_layLaw 33 = .ok (.aload_n 0, 1) := by decide +kernel
theorem dX10_layLaw_34 : decode cX10_layLaw 34 = .ok (.dup, 1) := by decide +kernel
theorem dX10_layLaw_35 : decode cX10_layLaw 35 = .ok (.getfield 183, 3) := by decide +kernel
theorem dX10_layLaw_38 : decode cX10_layLaw 38 = .ok (.aload_n 0, 1) := by decide +kernel
theorem dX10_layLaw_39 : decode cX10_layLaw 39 = .ok (.getfield 22, 3) := by decide +kernel
theorem dX10_layLaw_42 : decode cX10_layLaw 42 = .ok (.iload_n 3, 1) := by decide +kernel
theorem dX10_layLaw_43 : decode cX10_layLaw 43 = .ok (.iaload, 1) := by decide +kernel
theorem dX10_layLaw_44 : decode cX10_layLaw 44 = .ok (.bipush 10, 2) := by decide +kernel
theorem dX10_layLaw_46 : decode cX10_layLaw 46 = .ok (.aload_n 0, 1) := by decide +kernel
theorem dX10_layLaw_47 : decode cX10_layLaw 47 = .ok (.getfield 44, 3) := by decide +kernel
theorem dX10_layLaw_50 : decode cX10_layLaw 50 = .ok (.iload_n 3, 1) := by decide +kernel
theorem dX10_layLaw_51 : decode cX10_layLaw 51 = .ok (.iaload, 1) := by decide +kernel
theorem dX10_layLaw_52 : decode cX10_layLaw 52 = .ok (.isub, 1) := by decide +kernel
theorem dX10_layLaw_53 : decode cX10_layLaw 53 = .ok (.imul, 1) := by decide +kernel
theorem dX10_layLaw_54 : decode cX10_layLaw 54 = .ok (.i2l, 1) := by decide +kernel
theorem dX10_layLaw_55 : decode cX10_layLaw 55 = .ok (.ladd, 1) := by decide +kernel
theorem dX10_layLaw_56 : decode cX10_layLaw 56 = .ok (.putfield 183, 3) := by decide +kernel
theorem dX10_layLaw_59 : decode cX10_layLaw 59 = .ok (.aload_n 0, 1) := by decide +kernel
theorem dX10_layLaw_60 : decode cX10_layLaw 60 = .ok (.dup, 1) := by decide +kernel
theorem dX10_layLaw_61 : decode cX10_layLaw 61 = .ok (.getfield 187, 3) := by decide +kernel
theorem dX10_layLaw_64 : decode cX10_layLaw 64 = .ok (.ldc2_w 190, 3) := by decide +kernel
theorem dX10_layLaw_67 : decode cX10_layLaw 67 = .ok (.aload_n 0, 1) := by decide +kernel
theorem dX10_layLaw_68 : decode cX10_layLaw 68 = .ok (.getfield 22, 3) := by decide +kernel
theorem dX10_layLaw_71 : decode cX10_layLaw 71 = .ok (.iload_n 3, 1) := by decide +kernel
theorem dX10_layLaw_72 : decode cX10_layLaw 72 = .ok (.iaload, 1) := by decide +kernel
theorem dX10_layLaw_73 : decode cX10_layLaw 73 = .ok (.i2l, 1) := by decide +kernel
theorem dX10_layLaw_74 : decode cX10_layLaw 74 = .ok (.lmul, 1) := by decide +kernel
theorem dX10_layLaw_75 : decode cX10_layLaw 75 = .ok (.ladd, 1) := by decide +kernel
theorem dX10_layLaw_76 : decode cX10_layLaw 76 = .ok (.putfield 187, 3) := by decide +kernel
theorem dX10_layLaw_79 : decode cX10_layLaw 79 = .ok (.iinc 3 (-1), 3) := by decide +kernel
theorem dX10_layLaw_82 : decode cX10_layLaw 82 = .ok (.goto (-68), 3) := by decide +kernel
theorem dX10_layLaw_85 : decode cX10_layLaw 85 = .ok (.aload_n 0, 1) := by decide +kernel
theorem dX10_layLaw_86 : decode cX10_layLaw 86 = .ok (.aload_n 0, 1) := by decide +kernel
theorem dX10_layLaw_87 : decode cX10_layLaw 87 = .ok (.getfield 22, 3) := by decide +kernel
theorem dX10_layLaw_90 : decode cX10_layLaw 90 = .ok (.bipush 12, 2) := by decide +kernel
theorem dX10_layLaw_92 : decode cX10_layLaw 92 = .ok (.iaload, 1) := by decide +kernel
theorem dX10_layLaw_93 : decode cX10_layLaw 93 = .ok (.aload_n 0, 1) := by decide +kernel
theorem dX10_layLaw_94 : decode cX10_layLaw 94 = .ok (.getfield 22, 3) := by decide +kernel
theorem dX10_layLaw_97 : decode cX10_layLaw 97 = .ok (.bipush 13, 2) := by decide +kernel
theorem dX10_layLaw_99 : decode cX10_layLaw 99 = .ok (.iaload, 1) := by decide +kernel
theorem dX10_layLaw_100 : decode cX10_layLaw 100 = .ok (.iadd, 1) := by decide +kernel
theorem dX10_layLaw_101 : decode cX10_layLaw 101 = .ok (.aload_n 0, 1) := by decide +kernel
theorem dX10_layLaw_102 : decode cX10_layLaw 102 = .ok (.getfield 22, 3) := by decide +kernel
theorem dX10_layLaw_105 : decode cX10_layLaw 105 = .ok (.bipush 14, 2) := by decide +kernel
theorem dX10_layLaw_107 : decode cX10_layLaw 107 = .ok (.iaload, 1) := by decide +kernel
theorem dX10_layLaw_108 : decode cX10_layLaw 108 = .ok (.iadd, 1) := by decide +kernel
theorem dX10_layLaw_109 : decode cX10_layLaw 109 = .ok (.aload_n 0, 1) := by decide +kernel
theorem dX10_layLaw_110 : decode cX10_layLaw 110 = .ok (.getfield 22, 3) := by decide +kernel
theorem dX10_layLaw_113 : decode cX10_layLaw 113 = .ok (.bipush 15, 2) := by decide +kernel
theorem dX10_layLaw_115 : decode cX10_layLaw 115 = .ok (.iaload, 1) := by decide +kernel
theorem dX10_layLaw_116 : decode cX10_layLaw 116 = .ok (.iadd, 1) := by decide +kernel
theorem dX10_layLaw_117 : decode cX10_layLaw 117 = .ok (.i2l, 1) := by decide +kernel
theorem dX10_layLaw_118 : decode cX10_layLaw 118 = .ok (.putfield 192, 3) := by decide +kernel
theorem dX10_layLaw_121 : decode cX10_layLaw 121 = .ok (.return_, 1) := by decide +kernel
theorem dX10_power_0 : decode cX10_power 0 = .ok (.lconst 1, 1) := by decide +kernel
theorem dX10_power_1 : decode cX10_power 1 = .ok (.lstore_n 3, 1) := by decide +kernel
theorem dX10_power_2 : decode cX10_power 2 = .ok (.iconst 0, 1) := by decide +kernel
theorem dX10_power_3 : decode cX10_power 3 = .ok (.istore 5, 2) := by decide +kernel
theorem dX10_power_5 : decode cX10_power 5 = .ok (.iload 5, 2) := by decide +kernel
theorem dX10_power_7 : decode cX10_power 7 = .ok (.iload_n 2, 1) := by decide +kernel
theorem dX10_power_8 : decode cX10_power 8 = .ok (.if_icmp .ge 13, 3) := by decide +kernel
theorem dX10_power_11 : decode cX10_power 11 = .ok (.lload_n 3, 1) := by decide +kernel
theorem dX10_power_12 : decode cX10_power 12 = .ok (.lload_n 0, 1) := by decide +kernel
theorem dX10_power_13 : decode cX10_power 13 = .ok (.lmul, 1) := by decide +kernel
theorem dX10_power_14 : decode cX10_power 14 = .ok (.lstore_n 3, 1) := by decide +kernel
theorem dX10_power_15 : decode cX10_power 15 = .ok (.iinc 5 1, 3) := by decide +kernel
theorem dX10_power_18 : decode cX10_power 18 = .ok (.goto (-13), 3) := by decide +kernel
theorem dX10_power_21 : decode cX10_power 21 = .ok (.lload_n 3, 1) := by decide +kernel
theorem dX10_power_22 : decode cX10_power 22 = .ok (.lreturn, 1) := by decide +kernel
set_option maxRecDepth 20000 in
theorem ggX10_whole_X10_power : GoodIn wsX10_whole wsX10_power := goodIn_r _ [7] (by decide +kernel) (by decide +kernel)
set_option maxRecDepth 20000 in
theorem gX10_whole_X10_power : GoodIn wsX10_whole (va_wsS RX10 195 yX10_power wsX10_power) := goodIn_app (goodIn_of _ (by decide +kernel)) ggX10_whole_X10_power
theorem dX10_whole_0 : decode cX10_whole 0 = .ok (.aload_n 0, 1) := by decide +kernel
theorem dX10_whole_1 : decode cX10_whole 1 = .ok (.getfield 192, 3) := by decide +kernel
theorem dX10_whole_4 : decode cX10_whole 4 = .ok (.aload_n 0, 1) := by decide +kernel
theorem dX10_whole_5 : decode cX10_whole 5 = .ok (.getfield 187, 3) := by decide +kernel
theorem dX10_whole_8 : decode cX10_whole 8 = .ok (.iconst 3, 1) := by decide +kernel
theorem dX10_whole_9 : decode cX10_whole 9 = .ok (.invokestatic 195, 3) := by decide +kernel
theorem dX10_whole_12 : decode cX10_whole 12 = .ok (.lmul, 1) := by decide +kernel
theorem dX10_whole_13 : decode cX10_whole 13 = .ok (.ldc2_w 199, 3) := by decide +kernel
theorem dX10_whole_16 : decode cX10_whole 16 = .ok (.lmul, 1) := by decide +kernel
theorem dX10_whole_17 : decode cX10_whole 17 = .ok (.lreturn, 1) := by decide +kernel
set_option maxRecDepth 20000 in
theorem ggX10_shareUp_X10_power : GoodIn wsX10_shareUp wsX10_power := goodIn_r _ [8] (by decide +kernel) (by decide +kernel)
set_option maxRecDepth 20000 in
theorem gX10_shareUp_X10_power : GoodIn wsX10_shareUp (va_wsS RX10 195 yX10_power wsX10_power) := goodIn_app (goodIn_of _ (by decide +kernel)) ggX10_shareUp_X10_power
theorem dX10_shareUp_0 : decode cX10_shareUp 0 = .ok (.aload_n 0, 1) := by decide +kernel
theorem dX10_shareUp_1 : decode cX10_shareUp 1 = .ok (.getfield 22, 3) := by decide +kernel
theorem dX10_shareUp_4 : decode cX10_shareUp 4 = .ok (.bipush 12, 2) := by decide +kernel
theorem dX10_shareUp_6 : decode cX10_shareUp 6 = .ok (.iload_n 1, 1) := by decide +kernel
theorem dX10_shareUp_7 : decode cX10_shareUp 7 = .ok (.iadd, 1) := by decide +kernel
theorem dX10_shareUp_8 : decode cX10_shareUp 8 = .ok (.iaload, 1) := by decide +kernel
theorem dX10_shareUp_9 : decode cX10_shareUp 9 = .ok (.i2l, 1) := by decide +kernel
theorem dX10_shareUp_10 : decode cX10_shareUp 10 = .ok (.aload_n 0, 1) := by decide +kernel
theorem dX10_shareUp_11 : decode cX10_shareUp 11 = .ok (.getfield 183, 3) := by decide +kernel
theorem dX10_shareUp_14 : decode cX10_shareUp 14 = .ok (.iload_n 1, 1) := by decide +kernel
theorem dX10_shareUp_15 : decode cX10_shareUp 15 = .ok (.invokestatic 195, 3) := by decide +kernel
theorem dX10_shareUp_18 : decode cX10_shareUp 18 = .ok (.lmul, 1) := by decide +kernel
theorem dX10_shareUp_19 : decode cX10_shareUp 19 = .ok (.aload_n 0, 1) := by decide +kernel
theorem dX10_shareUp_20 : decode cX10_shareUp 20 = .ok (.getfield 187, 3) := by decide +kernel
theorem dX10_shareUp_23 : decode cX10_shareUp 23 = .ok (.iconst 3, 1) := by decide +kernel
theorem dX10_shareUp_24 : decode cX10_shareUp 24 = .ok (.iload_n 1, 1) := by decide +kernel
theorem dX10_shareUp_25 : decode cX10_shareUp 25 = .ok (.isub, 1) := by decide +kernel
theorem dX10_shareUp_26 : decode cX10_shareUp 26 = .ok (.invokestatic 195, 3) := by decide +kernel
theorem dX10_shareUp_29 : decode cX10_shareUp 29 = .ok (.lmul, 1) := by decide +kernel
theorem dX10_shareUp_30 : decode cX10_shareUp 30 = .ok (.ldc2_w 199, 3) := by decide +kernel
theorem dX10_shareUp_33 : decode cX10_shareUp 33 = .ok (.aload_n 0, 1) := by decide +kernel
theorem dX10_shareUp_34 : decode cX10_shareUp 34 = .ok (.getfield 22, 3) := by decide +kernel
theorem dX10_shareUp_37 : decode cX10_shareUp 37 = .ok (.bipush 16, 2) := by decide +kernel
theorem dX10_shareUp_39 : decode cX10_shareUp 39 = .ok (.iaload, 1) := by decide +kernel
theorem dX10_shareUp_40 : decode cX10_shareUp 40 = .ok (.i2l, 1) := by decide +kernel
theorem dX10_shareUp_41 : decode cX10_shareUp 41 = .ok (.lsub, 1) := by decide +kernel
theorem dX10_shareUp_42 : decode cX10_shareUp 42 = .ok (.lmul, 1) := by decide +kernel
theorem dX10_shareUp_43 : decode cX10_shareUp 43 = .ok (.lreturn, 1) := by decide +kernel
set_option maxRecDepth 20000 in
theorem ggX10_holesUp_X10_power : GoodIn wsX10_holesUp wsX10_power := goodIn_r _ [9] (by decide +kernel) (by decide +kernel)
set_option maxRecDepth 20000 in
theorem gX10_holesUp_X10_power : GoodIn wsX10_holesUp (va_wsS RX10 195 yX10_power wsX10_power) := goodIn_app (goodIn_of _ (by decide +kernel)) ggX10_holesUp_X10_power
theorem dX10_holesUp_0 : decode cX10_holesUp 0 = .ok (.lconst 0, 1) := by decide +kernel
theorem dX10_holesUp_1 : decode cX10_holesUp 1 = .ok (.lstore_n 2, 1) := by decide +kernel
theorem dX10_holesUp_2 : decode cX10_holesUp 2 = .ok (.iconst 1, 1) := by decide +kernel
theorem dX10_holesUp_3 : decode cX10_holesUp 3 = .ok (.istore 4, 2) := by decide +kernel
theorem dX10_holesUp_5 : decode cX10_holesUp 5 = .ok (.iload 4, 2) := by decide +kernel
theorem dX10_holesUp_7 : decode cX10_holesUp 7 = .ok (.iconst 3, 1) := by decide +kernel
theorem dX10_holesUp_8 : decode cX10_holesUp 8 = .ok (.if_icmp .gt 70, 3) := by decide +kernel
theorem dX10_holesUp_11 : decode cX10_holesUp 11 = .ok (.lload_n 2, 1) := by decide +kernel
theorem dX10_holesUp_12 : decode cX10_holesUp 12 = .ok (.aload_n 0, 1) := by decide +kernel
theorem dX10_holesUp_13 : decode cX10_holesUp 13 = .ok (.getfield 22, 3) := by decide +kernel
theorem dX10_holesUp_16 : decode cX10_holesUp 16 = .ok (.bipush 12, 2) := by decide +kernel
theorem dX10_holesUp_18 : decode cX10_holesUp 18 = .ok (.iload 4, 2) := by decide +kernel
theorem dX10_holesUp_20 : decode cX10_holesUp 20 = .ok (.iadd, 1) := by decide +kernel
theorem dX10_holesUp_21 : decode cX10_holesUp 21 = .ok (.iaload, 1) := by decide +kernel
theorem dX10_holesUp_22 : decode cX10_holesUp 22 = .ok (.i2l, 1) := by decide +kernel
theorem dX10_holesUp_23 : decode cX10_holesUp 23 = .ok (.iload 4, 2) := by decide +kernel
theorem dX10_holesUp_25 : decode cX10_holesUp 25 = .ok (.i2l, 1) := by decide +kernel
theorem dX10_holesUp_26 : decode cX10_holesUp 26 = .ok (.lmul, 1) := by decide +kernel
theorem dX10_holesUp_27 : decode cX10_holesUp 27 = .ok (.aload_n 0, 1) := by decide +kernel
theorem dX10_holesUp_28 : decode cX10_holesUp 28 = .ok (.getfield 22, 3) := by decide +kernel
theorem dX10_holesUp_31 : decode cX10_holesUp 31 = .ok (.iload_n 1, 1) := by decide +kernel
theorem dX10_holesUp_32 : decode cX10_holesUp 32 = .ok (.iaload, 1) := by decide +kernel
theorem dX10_holesUp_33 : decode cX10_holesUp 33 = .ok (.i2l, 1) := by decide +kernel
theorem dX10_holesUp_34 : decode cX10_holesUp 34 = .ok (.lmul, 1) := by decide +kernel
theorem dX10_holesUp_35 : decode cX10_holesUp 35 = .ok (.bipush 10, 2) := by decide +kernel
theorem dX10_holesUp_37 : decode cX10_holesUp 37 = .ok (.aload_n 0, 1) := by decide +kernel
theorem dX10_holesUp_38 : decode cX10_holesUp 38 = .ok (.getfield 44, 3) := by decide +kernel
theorem dX10_holesUp_41 : decode cX10_holesUp 41 = .ok (.iload_n 1, 1) := by decide +kernel
theorem dX10_holesUp_42 : decode cX10_holesUp 42 = .ok (.iaload, 1) := by decide +kernel
theorem dX10_holesUp_43 : decode cX10_holesUp 43 = .ok (.isub, 1) := by decide +kernel
theorem dX10_holesUp_44 : decode cX10_holesUp 44 = .ok (.i2l, 1) := by decide +kernel
theorem dX10_holesUp_45 : decode cX10_holesUp 45 = .ok (.lmul, 1) := by decide +kernel
theorem dX10_holesUp_46 : decode cX10_holesUp 46 = .ok (.aload_n 0, 1) := by decide +kernel
theorem dX10_holesUp_47 : decode cX10_holesUp 47 = .ok (.getfield 183, 3) := by decide +kernel
theorem dX10_holesUp_50 : decode cX10_holesUp 50 = .ok (.iload 4, 2) := by decide +kernel
theorem dX10_holesUp_52 : decode cX10_holesUp 52 = .ok (.iconst 1, 1) := by decide +kernel
theorem dX10_holesUp_53 : decode cX10_holesUp 53 = .ok (.isub, 1) := by decide +kernel
theorem dX10_holesUp_54 : decode cX10_holesUp 54 = .ok (.invokestatic 195, 3) := by decide +kernel
theorem dX10_holesUp_57 : decode cX10_holesUp 57 = .ok (.lmul, 1) := by decide +kernel
theorem dX10_holesUp_58 : decode cX10_holesUp 58 = .ok (.aload_n 0, 1) := by decide +kernel
theorem dX10_holesUp_59 : decode cX10_holesUp 59 = .ok (.getfield 187, 3) := by decide +kernel
theorem dX10_holesUp_62 : decode cX10_holesUp 62 = .ok (.iconst 3, 1) := by decide +kernel
theorem dX10_holesUp_63 : decode cX10_holesUp 63 = .ok (.iload 4, 2) := by decide +kernel
theorem dX10_holesUp_65 : decode cX10_holesUp 65 = .ok (.isub, 1) := by decide +kernel
theorem dX10_holesUp_66 : decode cX10_holesUp 66 = .ok (.invokestatic 195, 3) := by decide +kernel
theorem dX10_holesUp_69 : decode cX10_holesUp 69 = .ok (.lmul, 1) := by decide +kernel
theorem dX10_holesUp_70 : decode cX10_holesUp 70 = .ok (.ladd, 1) := by decide +kernel
theorem dX10_holesUp_71 : decode cX10_holesUp 71 = .ok (.lstore_n 2, 1) := by decide +kernel
theorem dX10_holesUp_72 : decode cX10_holesUp 72 = .ok (.iinc 4 1, 3) := by decide +kernel
theorem dX10_holesUp_75 : decode cX10_holesUp 75 = .ok (.goto (-70), 3) := by decide +kernel
theorem dX10_holesUp_78 : decode cX10_holesUp 78 = .ok (.lload_n 2, 1) := by decide +kernel
theorem dX10_holesUp_79 : decode cX10_holesUp 79 = .ok (.ldc2_w 199, 3) := by decide +kernel
theorem dX10_holesUp_82 : decode cX10_holesUp 82 = .ok (.aload_n 0, 1) := by decide +kernel
theorem dX10_holesUp_83 : decode cX10_holesUp 83 = .ok (.getfield 22, 3) := by decide +kernel
theorem dX10_holesUp_86 : decode cX10_holesUp 86 = .ok (.bipush 16, 2) := by decide +kernel
theorem dX10_holesUp_88 : decode cX10_holesUp 88 = .ok (.iaload, 1) := by decide +kernel
theorem dX10_holesUp_89 : decode cX10_holesUp 89 = .ok (.i2l, 1) := by decide +kernel
theorem dX10_holesUp_90 : decode cX10_holesUp 90 = .ok (.lsub, 1) := by decide +kernel
theorem dX10_holesUp_91 : decode cX10_holesUp 91 = .ok (.lmul, 1) := by decide +kernel
theorem dX10_holesUp_92 : decode cX10_holesUp 92 = .ok (.lreturn, 1) := by decide +kernel
theorem dX10_lowest_0 : decode cX10_lowest 0 = .ok (.lload_n 0, 1) := by decide +kernel
theorem dX10_lowest_1 : decode cX10_lowest 1 = .ok (.lstore 5, 2) := by decide +kernel
theorem dX10_lowest_3 : decode cX10_lowest 3 = .ok (.lload_n 2, 1) := by decide +kernel
theorem dX10_lowest_4 : decode cX10_lowest 4 = .ok (.lstore 7, 2) := by decide +kernel
theorem dX10_lowest_6 : decode cX10_lowest 6 = .ok (.lload 7, 2) := by decide +kernel
theorem dX10_lowest_8 : decode cX10_lowest 8 = .ok (.lconst 0, 1) := by decide +kernel
theorem dX10_lowest_9 : decode cX10_lowest 9 = .ok (.lcmp, 1) := by decide +kernel
theorem dX10_lowest_10 : decode cX10_lowest 10 = .ok (.ifCond .eq 21, 3) := by decide +kernel
theorem dX10_lowest_13 : decode cX10_lowest 13 = .ok (.lload 5, 2) := by decide +kernel
theorem dX10_lowest_15 : decode cX10_lowest 15 = .ok (.lload 7, 2) := by decide +kernel
theorem dX10_lowest_17 : decode cX10_lowest 17 = .ok (.lrem, 1) := by decide +kernel
theorem dX10_lowest_18 : decode cX10_lowest 18 = .ok (.lstore 9, 2) := by decide +kernel
theorem dX10_lowest_20 : decode cX10_lowest 20 = .ok (.lload 7, 2) := by decide +kernel
theorem dX10_lowest_22 : decode cX10_lowest 22 = .ok (.lstore 5, 2) := by decide +kernel
theorem dX10_lowest_24 : decode cX10_lowest 24 = .ok (.lload 9, 2) := by decide +kernel
theorem dX10_lowest_26 : decode cX10_lowest 26 = .ok (.lstore 7, 2) := by decide +kernel
theorem dX10_lowest_28 : decode cX10_lowest 28 = .ok (.goto (-22), 3) := by decide +kernel
theorem dX10_lowest_31 : decode cX10_lowest 31 = .ok (.iload 4, 2) := by decide +kernel
theorem dX10_lowest_33 : decode cX10_lowest 33 = .ok (.ifCond .ne 7, 3) := by decide +kernel
theorem dX10_lowest_36 : decode cX10_lowest 36 = .ok (.lload_n 0, 1) := by decide +kernel
theorem dX10_lowest_37 : decode cX10_lowest 37 = .ok (.goto 4, 3) := by decide +kernel
theorem dX10_lowest_40 : decode cX10_lowest 40 = .ok (.lload_n 2, 1) := by decide +kernel
theorem dX10_lowest_41 : decode cX10_lowest 41 = .ok (.lload 5, 2) := by decide +kernel
theorem dX10_lowest_43 : decode cX10_lowest 43 = .ok (.ldiv, 1) := by decide +kernel
theorem dX10_lowest_44 : decode cX10_lowest 44 = .ok (.lreturn, 1) := by decide +kernel
set_option maxRecDepth 20000 in
theorem ggX10_share_X10_isLaw : GoodIn wsX10_share wsX10_isLaw := goodIn_r _ [6, 7, 8, 9, 5, 10] (by decide +kernel) (by decide +kernel)
set_option maxRecDepth 20000 in
theorem gX10_share_X10_isLaw : GoodIn wsX10_share (va_wsS RX10 201 yX10_isLaw wsX10_isLaw) := goodIn_app (goodIn_of _ (by decide +kernel)) ggX10_share_X10_isLaw
set_option maxRecDepth 20000 in
theorem ggX10_share_X10_in : GoodIn wsX10_share wsX10_in := goodIn_r _ [10] (by decide +kernel) (by decide +kernel)
set_option maxRecDepth 20000 in
theorem gX10_share_X10_in : GoodIn wsX10_share (va_wsS RX10 67 yX10_in wsX10_in) := goodIn_app (goodIn_of _ (by decide +kernel)) ggX10_share_X10_in
set_option maxRecDepth 20000 in
theorem ggX10_share_X10_layLaw : GoodIn wsX10_share wsX10_layLaw := goodIn_r _ [14, 15, 16, 17, 18, 19, 20, 36, 37, 38, 39, 40, 41, 42, 43, 44, 45, 46, 47, 48, 49, 50, 51, 52, 53, 54, 55, 56, 57, 58, 59, 60, 61, 62, 63, 64, 65, 66, 67] (by decide +kernel) (by decide +kernel)
set_option maxRecDepth 20000 in
theorem gX10_share_X10_layLaw : GoodIn wsX10_share (wsV RX10 206 RX10 yX10_layLaw wsX10_layLaw) := goodIn_app (goodIn_of _ (by decide +kernel)) ggX10_share_X10_layLaw
set_option maxRecDepth 20000 in
theorem ggX10_share_X10_shareUp : GoodIn wsX10_share wsX10_shareUp := goodIn_r _ [24, 18, 15, 16, 25, 26, 27, 5, 28, 36, 37, 38, 39, 40, 41, 42, 43, 44, 45, 46, 47, 48, 49, 50, 51, 52, 53, 54, 55, 56, 57, 58, 59, 60, 61, 62, 63, 64, 65, 66, 67] (by decide +kernel) (by decide +kernel)
set_option maxRecDepth 20000 in
theorem gX10_share_X10_shareUp : GoodIn wsX10_share (wsV RX10 209 RX10 yX10_shareUp wsX10_shareUp) := goodIn_app (goodIn_of _ (by decide +kernel)) ggX10_share_X10_shareUp
set_option maxRecDepth 20000 in
theorem ggX10_share_X10_whole : GoodIn wsX10_share wsX10_whole := goodIn_r _ [32, 20, 16, 25, 26, 27, 5, 28, 36, 37, 38, 39, 40, 41, 42, 43, 44, 45, 46, 47, 48, 49, 50, 51, 52, 53, 54, 55, 56, 57, 58, 59, 60, 61, 62, 63, 64, 65, 66, 67] (by decide +kernel) (by decide +kernel)
set_option maxRecDepth 20000 in
theorem gX10_share_X10_whole : GoodIn wsX10_share (wsV RX10 213 RX10 yX10_whole wsX10_whole) := goodIn_app (goodIn_of _ (by decide +kernel)) ggX10_share_X10_whole
set_option maxRecDepth 20000 in
theorem ggX10_share_X10_lowest : GoodIn wsX10_share wsX10_lowest := goodIn_r _ [35] (by decide +kernel) (by decide +kernel)
set_option maxRecDepth 20000 in
theorem gX10_share_X10_lowest : GoodIn wsX10_share (va_wsS RX10 217 yX10_lowest wsX10_lowest) := goodIn_app (goodIn_of _ (by decide +kernel)) ggX10_share_X10_lowest
theorem dX10_share_0 : decode cX10_share 0 = .ok (.iload_n 1, 1) := by decide +kernel
theorem dX10_share_1 : decode cX10_share 1 = .ok (.invokestatic 201, 3) := by decide +kernel
theorem dX10_share_4 : decode cX10_share 4 = .ok (.ifCond .eq 25, 3) := by decide +kernel
theorem dX10_share_7 : decode cX10_share 7 = .ok (.iload_n 2, 1) := by decide +kernel
theorem dX10_share_8 : decode cX10_share 8 = .ok (.i2l, 1) := by decide +kernel
theorem dX10_share_9 : decode cX10_share 9 = .ok (.lconst 0, 1) := by decide +kernel
theorem dX10_share_10 : decode cX10_share 10 = .ok (.ldc2_w 130, 3) := by decide +kernel
theorem dX10_share_13 : decode cX10_share 13 = .ok (.invokestatic 67, 3) := by decide +kernel
theorem dX10_share_16 : decode cX10_share 16 = .ok (.ifCond .eq 13, 3) := by decide +kernel
theorem dX10_share_19 : decode cX10_share 19 = .ok (.iload_n 3, 1) := by decide +kernel
theorem dX10_share_20 : decode cX10_share 20 = .ok (.i2l, 1) := by decide +kernel
theorem dX10_share_21 : decode cX10_share 21 = .ok (.lconst 0, 1) := by decide +kernel
theorem dX10_share_22 : decode cX10_share 22 = .ok (.lconst 1, 1) := by decide +kernel
theorem dX10_share_23 : decode cX10_share 23 = .ok (.invokestatic 67, 3) := by decide +kernel
theorem dX10_share_26 : decode cX10_share 26 = .ok (.ifCond .ne 7, 3) := by decide +kernel
theorem dX10_share_29 : decode cX10_share 29 = .ok (.ldc2_w 204, 3) := by decide +kernel
theorem dX10_share_32 : decode cX10_share 32 = .ok (.lreturn, 1) := by decide +kernel
theorem dX10_share_33 : decode cX10_share 33 = .ok (.aload_n 0, 1) := by decide +kernel
theorem dX10_share_34 : decode cX10_share 34 = .ok (.iload_n 1, 1) := by decide +kernel
theorem dX10_share_35 : decode cX10_share 35 = .ok (.invokevirtual 206, 3) := by decide +kernel
theorem dX10_share_38 : decode cX10_share 38 = .ok (.aload_n 0, 1) := by decide +kernel
theorem dX10_share_39 : decode cX10_share 39 = .ok (.iload_n 2, 1) := by decide +kernel
theorem dX10_share_40 : decode cX10_share 40 = .ok (.invokevirtual 209, 3) := by decide +kernel
theorem dX10_share_43 : decode cX10_share 43 = .ok (.aload_n 0, 1) := by decide +kernel
theorem dX10_share_44 : decode cX10_share 44 = .ok (.invokevirtual 213, 3) := by decide +kernel
theorem dX10_share_47 : decode cX10_share 47 = .ok (.iload_n 3, 1) := by decide +kernel
theorem dX10_share_48 : decode cX10_share 48 = .ok (.invokestatic 217, 3) := by decide +kernel
theorem dX10_share_51 : decode cX10_share 51 = .ok (.lreturn, 1) := by decide +kernel
set_option maxRecDepth 20000 in
theorem ggX10_holes_X10_isLaw : GoodIn wsX10_holes wsX10_isLaw := goodIn_r _ [5, 6, 7, 8, 4, 9] (by decide +kernel) (by decide +kernel)
set_option maxRecDepth 20000 in
theorem gX10_holes_X10_isLaw : GoodIn wsX10_holes (va_wsS RX10 201 yX10_isLaw wsX10_isLaw) := goodIn_app (goodIn_of _ (by decide +kernel)) ggX10_holes_X10_isLaw
set_option maxRecDepth 20000 in
theorem ggX10_holes_X10_isPart : GoodIn wsX10_holes wsX10_isPart := goodIn_r _ [12, 13, 7, 8, 4, 9] (by decide +kernel) (by decide +kernel)
set_option maxRecDepth 20000 in
theorem gX10_holes_X10_isPart : GoodIn wsX10_holes (va_wsS RX10 132 yX10_isPart wsX10_isPart) := goodIn_app (goodIn_of _ (by decide +kernel)) ggX10_holes_X10_isPart
set_option maxRecDepth 20000 in
theorem ggX10_holes_X10_in : GoodIn wsX10_holes wsX10_in := goodIn_r _ [9] (by decide +kernel) (by decide +kernel)
set_option maxRecDepth 20000 in
theorem gX10_holes_X10_in : GoodIn wsX10_holes (va_wsS RX10 67 yX10_in wsX10_in) := goodIn_app (goodIn_of _ (by decide +kernel)) ggX10_holes_X10_in
set_option maxRecDepth 20000 in
theorem ggX10_holes_X10_layLaw : GoodIn wsX10_holes wsX10_layLaw := goodIn_r _ [17, 18, 19, 20, 21, 22, 23, 39, 40, 41, 42, 43, 44, 45, 46, 47, 48, 49, 50, 51, 52, 53, 54, 55, 56, 57, 58, 59, 60, 61, 62, 63, 64, 65, 66, 67, 68, 69, 70] (by decide +kernel) (by decide +kernel)
set_option maxRecDepth 20000 in
theorem gX10_holes_X10_layLaw : GoodIn wsX10_holes (wsV RX10 206 RX10 yX10_layLaw wsX10_layLaw) := goodIn_app (goodIn_of _ (by decide +kernel)) ggX10_holes_X10_layLaw
set_option maxRecDepth 20000 in
theorem ggX10_holes_X10_holesUp : GoodIn wsX10_holes wsX10_holesUp := goodIn_r _ [27, 21, 20, 18, 19, 28, 29, 30, 4, 31, 39, 40, 41, 42, 43, 44, 45, 46, 47, 48, 49, 50, 51, 52, 53, 54, 55, 56, 57, 58, 59, 60, 61, 62, 63, 64, 65, 66, 67, 68, 69, 70] (by decide +kernel) (by decide +kernel)
set_option maxRecDepth 20000 in
theorem gX10_holes_X10_holesUp : GoodIn wsX10_holes (wsV RX10 221 RX10 yX10_holesUp wsX10_holesUp) := goodIn_app (goodIn_of _ (by decide +kernel)) ggX10_holes_X10_holesUp
set_option maxRecDepth 20000 in
theorem ggX10_holes_X10_whole : GoodIn wsX10_holes wsX10_whole := goodIn_r _ [35, 23, 19, 28, 29, 30, 4, 31, 39, 40, 41, 42, 43, 44, 45, 46, 47, 48, 49, 50, 51, 52, 53, 54, 55, 56, 57, 58, 59, 60, 61, 62, 63, 64, 65, 66, 67, 68, 69, 70] (by decide +kernel) (by decide +kernel)
set_option maxRecDepth 20000 in
theorem gX10_holes_X10_whole : GoodIn wsX10_holes (wsV RX10 213 RX10 yX10_whole wsX10_whole) := goodIn_app (goodIn_of _ (by decide +kernel)) ggX10_holes_X10_whole
set_option maxRecDepth 20000 in
theorem ggX10_holes_X10_lowest : GoodIn wsX10_holes wsX10_lowest := goodIn_r _ [38] (by decide +kernel) (by decide +kernel)
set_option maxRecDepth 20000 in
theorem gX10_holes_X10_lowest : GoodIn wsX10_holes (va_wsS RX10 217 yX10_lowest wsX10_lowest) := goodIn_app (goodIn_of _ (by decide +kernel)) ggX10_holes_X10_lowest
theorem dX10_holes_0 : decode cX10_holes 0 = .ok (.iload_n 1, 1) := by decide +kernel
theorem dX10_holes_1 : decode cX10_holes 1 = .ok (.invokestatic 201, 3) := by decide +kernel
theorem dX10_holes_4 : decode cX10_holes 4 = .ok (.ifCond .eq 20, 3) := by decide +kernel
theorem dX10_holes_7 : decode cX10_holes 7 = .ok (.iload_n 2, 1) := by decide +kernel
theorem dX10_holes_8 : decode cX10_holes 8 = .ok (.invokestatic 132, 3) := by decide +kernel
theorem dX10_holes_11 : decode cX10_holes 11 = .ok (.ifCond .eq 13, 3) := by decide +kernel
theorem dX10_holes_14 : decode cX10_holes 14 = .ok (.iload_n 3, 1) := by decide +kernel
theorem dX10_holes_15 : decode cX10_holes 15 = .ok (.i2l, 1) := by decide +kernel
theorem dX10_holes_16 : decode cX10_holes 16 = .ok (.lconst 0, 1) := by decide +kernel
theorem dX10_holes_17 : decode cX10_holes 17 = .ok (.lconst 1, 1) := by decide +kernel
theorem dX10_holes_18 : decode cX10_holes 18 = .ok (.invokestatic 67, 3) := by decide +kernel
theorem dX10_holes_21 : decode cX10_holes 21 = .ok (.ifCond .ne 7, 3) := by decide +kernel
theorem dX10_holes_24 : decode cX10_holes 24 = .ok (.ldc2_w 204, 3) := by decide +kernel
theorem dX10_holes_27 : decode cX10_holes 27 = .ok (.lreturn, 1) := by decide +kernel
theorem dX10_holes_28 : decode cX10_holes 28 = .ok (.aload_n 0, 1) := by decide +kernel
theorem dX10_holes_29 : decode cX10_holes 29 = .ok (.iload_n 1, 1) := by decide +kernel
theorem dX10_holes_30 : decode cX10_holes 30 = .ok (.invokevirtual 206, 3) := by decide +kernel
theorem dX10_holes_33 : decode cX10_holes 33 = .ok (.aload_n 0, 1) := by decide +kernel
theorem dX10_holes_34 : decode cX10_holes 34 = .ok (.iload_n 2, 1) := by decide +kernel
theorem dX10_holes_35 : decode cX10_holes 35 = .ok (.invokevirtual 221, 3) := by decide +kernel
theorem dX10_holes_38 : decode cX10_holes 38 = .ok (.aload_n 0, 1) := by decide +kernel
theorem dX10_holes_39 : decode cX10_holes 39 = .ok (.invokevirtual 213, 3) := by decide +kernel
theorem dX10_holes_42 : decode cX10_holes 42 = .ok (.iload_n 3, 1) := by decide +kernel
theorem dX10_holes_43 : decode cX10_holes 43 = .ok (.invokestatic 217, 3) := by decide +kernel
theorem dX10_holes_46 : decode cX10_holes 46 = .ok (.lreturn, 1) := by decide +kernel
theorem dX10_size_0 : decode cX10_size 0 = .ok (.lload_n 0, 1) := by decide +kernel
theorem dX10_size_1 : decode cX10_size 1 = .ok (.lconst 0, 1) := by decide +kernel
theorem dX10_size_2 : decode cX10_size 2 = .ok (.lcmp, 1) := by decide +kernel
theorem dX10_size_3 : decode cX10_size 3 = .ok (.ifCond .ge 8, 3) := by decide +kernel
theorem dX10_size_6 : decode cX10_size 6 = .ok (.lload_n 0, 1) := by decide +kernel
theorem dX10_size_7 : decode cX10_size 7 = .ok (.lneg, 1) := by decide +kernel
theorem dX10_size_8 : decode cX10_size 8 = .ok (.goto 4, 3) := by decide +kernel
theorem dX10_size_11 : decode cX10_size 11 = .ok (.lload_n 0, 1) := by decide +kernel
theorem dX10_size_12 : decode cX10_size 12 = .ok (.lreturn, 1) := by decide +kernel
set_option maxRecDepth 20000 in
theorem ggX10_farthest_X10_shareUp : GoodIn wsX10_farthest wsX10_shareUp := goodIn_r _ [6, 7, 8, 9, 10, 11, 12, 5, 13, 27, 28, 29, 30, 31, 32, 33, 34, 35, 36, 37, 38, 39, 40, 41, 42, 43, 44, 45, 46, 47, 48, 49, 50, 51, 52, 53, 54, 55, 56, 57, 58] (by decide +kernel) (by decide +kernel)
set_option maxRecDepth 20000 in
theorem gX10_farthest_X10_shareUp : GoodIn wsX10_farthest (wsV RX10 209 RX10 yX10_shareUp wsX10_shareUp) := goodIn_app (goodIn_of _ (by decide +kernel)) ggX10_farthest_X10_shareUp
set_option maxRecDepth 20000 in
theorem ggX10_farthest_X10_whole : GoodIn wsX10_farthest wsX10_whole := goodIn_r _ [17, 18, 9, 10, 11, 12, 5, 13, 27, 28, 29, 30, 31, 32, 33, 34, 35, 36, 37, 38, 39, 40, 41, 42, 43, 44, 45, 46, 47, 48, 49, 50, 51, 52, 53, 54, 55, 56, 57, 58] (by decide +kernel) (by decide +kernel)
set_option maxRecDepth 20000 in
theorem gX10_farthest_X10_whole : GoodIn wsX10_farthest (wsV RX10 213 RX10 yX10_whole wsX10_whole) := goodIn_app (goodIn_of _ (by decide +kernel)) ggX10_farthest_X10_whole
set_option maxRecDepth 20000 in
theorem ggX10_farthest_X10_size : GoodIn wsX10_farthest wsX10_size := goodIn_r _ [21] (by decide +kernel) (by decide +kernel)
set_option maxRecDepth 20000 in
theorem gX10_farthest_X10_size : GoodIn wsX10_farthest (va_wsS RX10 224 yX10_size wsX10_size) := goodIn_app (goodIn_of _ (by decide +kernel)) ggX10_farthest_X10_size
set_option maxRecDepth 20000 in
theorem ggX10_farthest_X10_holesUp : GoodIn wsX10_farthest wsX10_holesUp := goodIn_r _ [25, 7, 26, 8, 9, 10, 11, 12, 5, 13, 27, 28, 29, 30, 31, 32, 33, 34, 35, 36, 37, 38, 39, 40, 41, 42, 43, 44, 45, 46, 47, 48, 49, 50, 51, 52, 53, 54, 55, 56, 57, 58] (by decide +kernel) (by decide +kernel)
set_option maxRecDepth 20000 in
theorem gX10_farthest_X10_holesUp : GoodIn wsX10_farthest (wsV RX10 221 RX10 yX10_holesUp wsX10_holesUp) := goodIn_app (goodIn_of _ (by decide +kernel)) ggX10_farthest_X10_holesUp
theorem dX10_farthest_0 : decode cX10_farthest 0 = .ok (.lconst 0, 1) := by decide +kernel
theorem dX10_farthest_1 : decode cX10_farthest 1 = .ok (.lstore_n 1, 1) := by decide +kernel
theorem dX10_farthest_2 : decode cX10_farthest 2 = .ok (.iconst 0, 1) := by decide +kernel
theorem dX10_farthest_3 : decode cX10_farthest 3 = .ok (.istore_n 3, 1) := by decide +kernel
theorem dX10_farthest_4 : decode cX10_farthest 4 = .ok (.iload_n 3, 1) := by decide +kernel
theorem dX10_farthest_5 : decode cX10_farthest 5 = .ok (.iconst 4, 1) := by decide +kernel
theorem dX10_farthest_6 : decode cX10_farthest 6 = .ok (.if_icmp .ge 56, 3) := by decide +kernel
theorem dX10_farthest_9 : decode cX10_farthest 9 = .ok (.aload_n 0, 1) := by decide +kernel
theorem dX10_farthest_10 : decode cX10_farthest 10 = .ok (.getfield 28, 3) := by decide +kernel
theorem dX10_farthest_13 : decode cX10_farthest 13 = .ok (.iconst 0, 1) := by decide +kernel
theorem dX10_farthest_14 : decode cX10_farthest 14 = .ok (.iaload, 1) := by decide +kernel
theorem dX10_farthest_15 : decode cX10_farthest 15 = .ok (.i2l, 1) := by decide +kernel
theorem dX10_farthest_16 : decode cX10_farthest 16 = .ok (.aload_n 0, 1) := by decide +kernel
theorem dX10_farthest_17 : decode cX10_farthest 17 = .ok (.iload_n 3, 1) := by decide +kernel
theorem dX10_farthest_18 : decode cX10_farthest 18 = .ok (.invokevirtual 209, 3) := by decide +kernel
theorem dX10_farthest_21 : decode cX10_farthest 21 = .ok (.lmul, 1) := by decide +kernel
theorem dX10_farthest_22 : decode cX10_farthest 22 = .ok (.aload_n 0, 1) := by decide +kernel
theorem dX10_farthest_23 : decode cX10_farthest 23 = .ok (.getfield 28, 3) := by decide +kernel
theorem dX10_farthest_26 : decode cX10_farthest 26 = .ok (.iconst 1, 1) := by decide +kernel
theorem dX10_farthest_27 : decode cX10_farthest 27 = .ok (.iload_n 3, 1) := by decide +kernel
theorem dX10_farthest_28 : decode cX10_farthest 28 = .ok (.iadd, 1) := by decide +kernel
theorem dX10_farthest_29 : decode cX10_farthest 29 = .ok (.iaload, 1) := by decide +kernel
theorem dX10_farthest_30 : decode cX10_farthest 30 = .ok (.i2l, 1) := by decide +kernel
theorem dX10_farthest_31 : decode cX10_farthest 31 = .ok (.aload_n 0, 1) := by decide +kernel
theorem dX10_farthest_32 : decode cX10_farthest 32 = .ok (.invokevirtual 213, 3) := by decide +kernel
theorem dX10_farthest_35 : decode cX10_farthest 35 = .ok (.lmul, 1) := by decide +kernel
theorem dX10_farthest_36 : decode cX10_farthest 36 = .ok (.lsub, 1) := by decide +kernel
theorem dX10_farthest_37 : decode cX10_farthest 37 = .ok (.invokestatic 224, 3) := by decide +kernel
theorem dX10_farthest_40 : decode cX10_farthest 40 = .ok (.lstore 4, 2) := by decide +kernel
theorem dX10_farthest_42 : decode cX10_farthest 42 = .ok (.lload 4, 2) := by decide +kernel
theorem dX10_farthest_44 : decode cX10_farthest 44 = .ok (.lload_n 1, 1) := by decide +kernel
theorem dX10_farthest_45 : decode cX10_farthest 45 = .ok (.lcmp, 1) := by decide +kernel
theorem dX10_farthest_46 : decode cX10_farthest 46 = .ok (.ifCond .le 8, 3) := by decide +kernel
theorem dX10_farthest_49 : decode cX10_farthest 49 = .ok (.lload 4, 2) := by decide +kernel
theorem dX10_farthest_51 : decode cX10_farthest 51 = .ok (.goto 4, 3) := by decide +kernel
theorem dX10_farthest_54 : decode cX10_farthest 54 = .ok (.lload_n 1, 1) := by decide +kernel
theorem dX10_farthest_55 : decode cX10_farthest 55 = .ok (.lstore_n 1, 1) := by decide +kernel
theorem dX10_farthest_56 : decode cX10_farthest 56 = .ok (.iinc 3 1, 3) := by decide +kernel
theorem dX10_farthest_59 : decode cX10_farthest 59 = .ok (.goto (-55), 3) := by decide +kernel
theorem dX10_farthest_62 : decode cX10_farthest 62 = .ok (.iconst 0, 1) := by decide +kernel
theorem dX10_farthest_63 : decode cX10_farthest 63 = .ok (.istore_n 3, 1) := by decide +kernel
theorem dX10_farthest_64 : decode cX10_farthest 64 = .ok (.iload_n 3, 1) := by decide +kernel
theorem dX10_farthest_65 : decode cX10_farthest 65 = .ok (.iconst 4, 1) := by decide +kernel
theorem dX10_farthest_66 : decode cX10_farthest 66 = .ok (.if_icmp .ge 56, 3) := by decide +kernel
theorem dX10_farthest_69 : decode cX10_farthest 69 = .ok (.aload_n 0, 1) := by decide +kernel
theorem dX10_farthest_70 : decode cX10_farthest 70 = .ok (.getfield 28, 3) := by decide +kernel
theorem dX10_farthest_73 : decode cX10_farthest 73 = .ok (.iconst 0, 1) := by decide +kernel
theorem dX10_farthest_74 : decode cX10_farthest 74 = .ok (.iaload, 1) := by decide +kernel
theorem dX10_farthest_75 : decode cX10_farthest 75 = .ok (.i2l, 1) := by decide +kernel
theorem dX10_farthest_76 : decode cX10_farthest 76 = .ok (.aload_n 0, 1) := by decide +kernel
theorem dX10_farthest_77 : decode cX10_farthest 77 = .ok (.iload_n 3, 1) := by decide +kernel
theorem dX10_farthest_78 : decode cX10_farthest 78 = .ok (.invokevirtual 221, 3) := by decide +kernel
theorem dX10_farthest_81 : decode cX10_farthest 81 = .ok (.lmul, 1) := by decide +kernel
theorem dX10_farthest_82 : decode cX10_farthest 82 = .ok (.aload_n 0, 1) := by decide +kernel
theorem dX10_farthest_83 : decode cX10_farthest 83 = .ok (.getfield 28, 3) := by decide +kernel
theorem dX10_farthest_86 : decode cX10_farthest 86 = .ok (.iconst 5, 1) := by decide +kernel
