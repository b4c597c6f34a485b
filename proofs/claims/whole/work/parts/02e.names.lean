theorem dX10_farthest_87 : decode cX10_farthest 87 = .ok (.iload_n 3, 1) := by decide +kernel
theorem dX10_farthest_88 : decode cX10_farthest 88 = .ok (.iadd, 1) := by decide +kernel
theorem dX10_farthest_89 : decode cX10_farthest 89 = .ok (.iaload, 1) := by decide +kernel
theorem dX10_farthest_90 : decode cX10_farthest 90 = .ok (.i2l, 1) := by decide +kernel
theorem dX10_farthest_91 : decode cX10_farthest 91 = .ok (.aload_n 0, 1) := by decide +kernel
theorem dX10_farthest_92 : decode cX10_farthest 92 = .ok (.invokevirtual 213, 3) := by decide +kernel
theorem dX10_farthest_95 : decode cX10_farthest 95 = .ok (.lmul, 1) := by decide +kernel
theorem dX10_farthest_96 : decode cX10_farthest 96 = .ok (.lsub, 1) := by decide +kernel
theorem dX10_farthest_97 : decode cX10_farthest 97 = .ok (.invokestatic 224, 3) := by decide +kernel
theorem dX10_farthest_100 : decode cX10_farthest 100 = .ok (.lstore 4, 2) := by decide +kernel
theorem dX10_farthest_102 : decode cX10_farthest 102 = .ok (.lload 4, 2) := by decide +kernel
theorem dX10_farthest_104 : decode cX10_farthest 104 = .ok (.lload_n 1, 1) := by decide +kernel
theorem dX10_farthest_105 : decode cX10_farthest 105 = .ok (.lcmp, 1) := by decide +kernel
theorem dX10_farthest_106 : decode cX10_farthest 106 = .ok (.ifCond .le 8, 3) := by decide +kernel
theorem dX10_farthest_109 : decode cX10_farthest 109 = .ok (.lload 4, 2) := by decide +kernel
theorem dX10_farthest_111 : decode cX10_farthest 111 = .ok (.goto 4, 3) := by decide +kernel
theorem dX10_farthest_114 : decode cX10_farthest 114 = .ok (.lload_n 1, 1) := by decide +kernel
theorem dX10_farthest_115 : decode cX10_farthest 115 = .ok (.lstore_n 1, 1) := by decide +kernel
theorem dX10_farthest_116 : decode cX10_farthest 116 = .ok (.iinc 3 1, 3) := by decide +kernel
theorem dX10_farthest_119 : decode cX10_farthest 119 = .ok (.goto (-55), 3) := by decide +kernel
theorem dX10_farthest_122 : decode cX10_farthest 122 = .ok (.lload_n 1, 1) := by decide +kernel
theorem dX10_farthest_123 : decode cX10_farthest 123 = .ok (.lreturn, 1) := by decide +kernel
set_option maxRecDepth 20000 in
theorem ggX10_isNear_X10_size : GoodIn wsX10_isNear wsX10_size := goodIn_r _ [6] (by decide +kernel) (by decide +kernel)
set_option maxRecDepth 20000 in
theorem gX10_isNear_X10_size : GoodIn wsX10_isNear (va_wsS RX10 224 yX10_size wsX10_size) := goodIn_app (goodIn_of _ (by decide +kernel)) ggX10_isNear_X10_size
theorem dX10_isNear_0 : decode cX10_isNear 0 = .ok (.ldc2_w 190, 3) := by decide +kernel
theorem dX10_isNear_3 : decode cX10_isNear 3 = .ok (.iload_n 3, 1) := by decide +kernel
theorem dX10_isNear_4 : decode cX10_isNear 4 = .ok (.i2l, 1) := by decide +kernel
theorem dX10_isNear_5 : decode cX10_isNear 5 = .ok (.lmul, 1) := by decide +kernel
theorem dX10_isNear_6 : decode cX10_isNear 6 = .ok (.iload_n 2, 1) := by decide +kernel
theorem dX10_isNear_7 : decode cX10_isNear 7 = .ok (.aload_n 0, 1) := by decide +kernel
theorem dX10_isNear_8 : decode cX10_isNear 8 = .ok (.getfield 44, 3) := by decide +kernel
theorem dX10_isNear_11 : decode cX10_isNear 11 = .ok (.iload_n 1, 1) := by decide +kernel
theorem dX10_isNear_12 : decode cX10_isNear 12 = .ok (.iaload, 1) := by decide +kernel
theorem dX10_isNear_13 : decode cX10_isNear 13 = .ok (.imul, 1) := by decide +kernel
theorem dX10_isNear_14 : decode cX10_isNear 14 = .ok (.i2l, 1) := by decide +kernel
theorem dX10_isNear_15 : decode cX10_isNear 15 = .ok (.lsub, 1) := by decide +kernel
theorem dX10_isNear_16 : decode cX10_isNear 16 = .ok (.invokestatic 224, 3) := by decide +kernel
theorem dX10_isNear_19 : decode cX10_isNear 19 = .ok (.ldc2_w 190, 3) := by decide +kernel
theorem dX10_isNear_22 : decode cX10_isNear 22 = .ok (.lcmp, 1) := by decide +kernel
theorem dX10_isNear_23 : decode cX10_isNear 23 = .ok (.ifCond .gt 7, 3) := by decide +kernel
theorem dX10_isNear_26 : decode cX10_isNear 26 = .ok (.iconst 1, 1) := by decide +kernel
theorem dX10_isNear_27 : decode cX10_isNear 27 = .ok (.goto 4, 3) := by decide +kernel
theorem dX10_isNear_30 : decode cX10_isNear 30 = .ok (.iconst 0, 1) := by decide +kernel
theorem dX10_isNear_31 : decode cX10_isNear 31 = .ok (.ireturn, 1) := by decide +kernel
set_option maxRecDepth 20000 in
theorem ggX10_isSeen_X10_isNear : GoodIn wsX10_isSeen wsX10_isNear := goodIn_r _ [9, 10, 2, 11, 12, 8, 13, 14, 15, 16, 17, 18, 19, 20, 21, 22, 23, 24, 25, 26, 27, 28, 29, 30, 31, 32, 33, 34, 35, 36, 37, 38, 39, 40, 41, 42, 43, 44, 45] (by decide +kernel) (by decide +kernel)
set_option maxRecDepth 20000 in
theorem gX10_isSeen_X10_isNear : GoodIn wsX10_isSeen (wsV RX10 228 RX10 yX10_isNear wsX10_isNear) := goodIn_app (goodIn_of _ (by decide +kernel)) ggX10_isSeen_X10_isNear
theorem dX10_isSeen_0 : decode cX10_isSeen 0 = .ok (.iconst 1, 1) := by decide +kernel
theorem dX10_isSeen_1 : decode cX10_isSeen 1 = .ok (.istore_n 1, 1) := by decide +kernel
theorem dX10_isSeen_2 : decode cX10_isSeen 2 = .ok (.iconst 0, 1) := by decide +kernel
theorem dX10_isSeen_3 : decode cX10_isSeen 3 = .ok (.istore_n 2, 1) := by decide +kernel
theorem dX10_isSeen_4 : decode cX10_isSeen 4 = .ok (.iload_n 2, 1) := by decide +kernel
theorem dX10_isSeen_5 : decode cX10_isSeen 5 = .ok (.iconst 4, 1) := by decide +kernel
theorem dX10_isSeen_6 : decode cX10_isSeen 6 = .ok (.if_icmp .ge 66, 3) := by decide +kernel
theorem dX10_isSeen_9 : decode cX10_isSeen 9 = .ok (.iload_n 1, 1) := by decide +kernel
theorem dX10_isSeen_10 : decode cX10_isSeen 10 = .ok (.ifCond .eq 54, 3) := by decide +kernel
theorem dX10_isSeen_13 : decode cX10_isSeen 13 = .ok (.aload_n 0, 1) := by decide +kernel
theorem dX10_isSeen_14 : decode cX10_isSeen 14 = .ok (.getfield 34, 3) := by decide +kernel
theorem dX10_isSeen_17 : decode cX10_isSeen 17 = .ok (.iload_n 2, 1) := by decide +kernel
theorem dX10_isSeen_18 : decode cX10_isSeen 18 = .ok (.baload, 1) := by decide +kernel
theorem dX10_isSeen_19 : decode cX10_isSeen 19 = .ok (.ifCond .eq 12, 3) := by decide +kernel
theorem dX10_isSeen_22 : decode cX10_isSeen 22 = .ok (.aload_n 0, 1) := by decide +kernel
theorem dX10_isSeen_23 : decode cX10_isSeen 23 = .ok (.getfield 44, 3) := by decide +kernel
theorem dX10_isSeen_26 : decode cX10_isSeen 26 = .ok (.iload_n 2, 1) := by decide +kernel
theorem dX10_isSeen_27 : decode cX10_isSeen 27 = .ok (.iaload, 1) := by decide +kernel
theorem dX10_isSeen_28 : decode cX10_isSeen 28 = .ok (.ifCond .le 36, 3) := by decide +kernel
theorem dX10_isSeen_31 : decode cX10_isSeen 31 = .ok (.aload_n 0, 1) := by decide +kernel
theorem dX10_isSeen_32 : decode cX10_isSeen 32 = .ok (.getfield 38, 3) := by decide +kernel
theorem dX10_isSeen_35 : decode cX10_isSeen 35 = .ok (.iload_n 2, 1) := by decide +kernel
theorem dX10_isSeen_36 : decode cX10_isSeen 36 = .ok (.iaload, 1) := by decide +kernel
theorem dX10_isSeen_37 : decode cX10_isSeen 37 = .ok (.ifCond .eq 23, 3) := by decide +kernel
theorem dX10_isSeen_40 : decode cX10_isSeen 40 = .ok (.aload_n 0, 1) := by decide +kernel
theorem dX10_isSeen_41 : decode cX10_isSeen 41 = .ok (.iload_n 2, 1) := by decide +kernel
theorem dX10_isSeen_42 : decode cX10_isSeen 42 = .ok (.aload_n 0, 1) := by decide +kernel
theorem dX10_isSeen_43 : decode cX10_isSeen 43 = .ok (.getfield 38, 3) := by decide +kernel
theorem dX10_isSeen_46 : decode cX10_isSeen 46 = .ok (.iload_n 2, 1) := by decide +kernel
theorem dX10_isSeen_47 : decode cX10_isSeen 47 = .ok (.iaload, 1) := by decide +kernel
theorem dX10_isSeen_48 : decode cX10_isSeen 48 = .ok (.aload_n 0, 1) := by decide +kernel
theorem dX10_isSeen_49 : decode cX10_isSeen 49 = .ok (.getfield 41, 3) := by decide +kernel
theorem dX10_isSeen_52 : decode cX10_isSeen 52 = .ok (.iload_n 2, 1) := by decide +kernel
theorem dX10_isSeen_53 : decode cX10_isSeen 53 = .ok (.iaload, 1) := by decide +kernel
theorem dX10_isSeen_54 : decode cX10_isSeen 54 = .ok (.invokevirtual 228, 3) := by decide +kernel
theorem dX10_isSeen_57 : decode cX10_isSeen 57 = .ok (.ifCond .eq 7, 3) := by decide +kernel
theorem dX10_isSeen_60 : decode cX10_isSeen 60 = .ok (.iconst 1, 1) := by decide +kernel
theorem dX10_isSeen_61 : decode cX10_isSeen 61 = .ok (.goto 4, 3) := by decide +kernel
theorem dX10_isSeen_64 : decode cX10_isSeen 64 = .ok (.iconst 0, 1) := by decide +kernel
theorem dX10_isSeen_65 : decode cX10_isSeen 65 = .ok (.istore_n 1, 1) := by decide +kernel
theorem dX10_isSeen_66 : decode cX10_isSeen 66 = .ok (.iinc 2 1, 3) := by decide +kernel
theorem dX10_isSeen_69 : decode cX10_isSeen 69 = .ok (.goto (-65), 3) := by decide +kernel
theorem dX10_isSeen_72 : decode cX10_isSeen 72 = .ok (.iload_n 1, 1) := by decide +kernel
theorem dX10_isSeen_73 : decode cX10_isSeen 73 = .ok (.ireturn, 1) := by decide +kernel
set_option maxRecDepth 20000 in
theorem ggX10_layGood_X10_layLaw : GoodIn wsX10_layGood wsX10_layLaw := goodIn_r _ [8, 9, 10, 11, 3, 12, 13, 49, 50, 51, 52, 53, 54, 55, 56, 57, 58, 59, 60, 61, 62, 63, 64, 65, 66, 67, 68, 69, 70, 71, 72, 73, 74, 75, 76, 77, 78, 79, 80] (by decide +kernel) (by decide +kernel)
set_option maxRecDepth 20000 in
theorem gX10_layGood_X10_layLaw : GoodIn wsX10_layGood (wsV RX10 206 RX10 yX10_layLaw wsX10_layLaw) := goodIn_app (goodIn_of _ (by decide +kernel)) ggX10_layGood_X10_layLaw
set_option maxRecDepth 20000 in
theorem ggX10_layGood_X10_isSeen : GoodIn wsX10_layGood wsX10_isSeen := goodIn_r _ [17, 18, 11, 19, 20, 21, 22, 23, 7, 24, 12, 25, 26, 27, 49, 50, 51, 52, 53, 54, 55, 56, 57, 58, 59, 60, 61, 62, 63, 64, 65, 66, 67, 68, 69, 70, 71, 72, 73, 74, 75, 76, 77, 78, 79, 80] (by decide +kernel) (by decide +kernel)
set_option maxRecDepth 20000 in
theorem gX10_layGood_X10_isSeen : GoodIn wsX10_layGood (wsV RX10 232 RX10 yX10_isSeen wsX10_isSeen) := goodIn_app (goodIn_of _ (by decide +kernel)) ggX10_layGood_X10_isSeen
set_option maxRecDepth 20000 in
theorem ggX10_layGood_X10_farthest : GoodIn wsX10_layGood wsX10_farthest := goodIn_r _ [31, 32, 33, 34, 35, 7, 36, 3, 9, 10, 37, 38, 39, 40, 41, 42, 43, 44, 13, 25, 26, 27, 45, 46, 47, 48, 11, 49, 50, 51, 52, 53, 54, 55, 56, 57, 58, 59, 60, 61, 62, 63, 64, 65, 66, 67, 68, 69, 70, 71, 72, 73, 74, 75, 76, 77, 78, 79, 80] (by decide +kernel) (by decide +kernel)
set_option maxRecDepth 20000 in
theorem gX10_layGood_X10_farthest : GoodIn wsX10_layGood (wsV RX10 236 RX10 yX10_farthest wsX10_farthest) := goodIn_app (goodIn_of _ (by decide +kernel)) ggX10_layGood_X10_farthest
set_option maxRecDepth 20000 in
theorem ggX10_layGood_X10_whole : GoodIn wsX10_layGood wsX10_whole := goodIn_r _ [44, 13, 10, 37, 38, 39, 7, 40, 49, 50, 51, 52, 53, 54, 55, 56, 57, 58, 59, 60, 61, 62, 63, 64, 65, 66, 67, 68, 69, 70, 71, 72, 73, 74, 75, 76, 77, 78, 79, 80] (by decide +kernel) (by decide +kernel)
set_option maxRecDepth 20000 in
theorem gX10_layGood_X10_whole : GoodIn wsX10_layGood (wsV RX10 213 RX10 yX10_whole wsX10_whole) := goodIn_app (goodIn_of _ (by decide +kernel)) ggX10_layGood_X10_whole
theorem dX10_layGood_0 : decode cX10_layGood 0 = .ok (.aload_n 0, 1) := by decide +kernel
theorem dX10_layGood_1 : decode cX10_layGood 1 = .ok (.getfield 47, 3) := by decide +kernel
theorem dX10_layGood_4 : decode cX10_layGood 4 = .ok (.ifCond .ne 4, 3) := by decide +kernel
theorem dX10_layGood_7 : decode cX10_layGood 7 = .ok (.return_, 1) := by decide +kernel
theorem dX10_layGood_8 : decode cX10_layGood 8 = .ok (.iconst 0, 1) := by decide +kernel
theorem dX10_layGood_9 : decode cX10_layGood 9 = .ok (.istore_n 1, 1) := by decide +kernel
theorem dX10_layGood_10 : decode cX10_layGood 10 = .ok (.iload_n 1, 1) := by decide +kernel
theorem dX10_layGood_11 : decode cX10_layGood 11 = .ok (.sipush 14641, 3) := by decide +kernel
theorem dX10_layGood_14 : decode cX10_layGood 14 = .ok (.if_icmp .ge 53, 3) := by decide +kernel
theorem dX10_layGood_17 : decode cX10_layGood 17 = .ok (.aload_n 0, 1) := by decide +kernel
theorem dX10_layGood_18 : decode cX10_layGood 18 = .ok (.iload_n 1, 1) := by decide +kernel
theorem dX10_layGood_19 : decode cX10_layGood 19 = .ok (.invokevirtual 206, 3) := by decide +kernel
theorem dX10_layGood_22 : decode cX10_layGood 22 = .ok (.aload_n 0, 1) := by decide +kernel
theorem dX10_layGood_23 : decode cX10_layGood 23 = .ok (.getfield 51, 3) := by decide +kernel
theorem dX10_layGood_26 : decode cX10_layGood 26 = .ok (.iload_n 1, 1) := by decide +kernel
theorem dX10_layGood_27 : decode cX10_layGood 27 = .ok (.aload_n 0, 1) := by decide +kernel
theorem dX10_layGood_28 : decode cX10_layGood 28 = .ok (.invokevirtual 232, 3) := by decide +kernel
theorem dX10_layGood_31 : decode cX10_layGood 31 = .ok (.ifCond .eq 28, 3) := by decide +kernel
theorem dX10_layGood_34 : decode cX10_layGood 34 = .ok (.aload_n 0, 1) := by decide +kernel
theorem dX10_layGood_35 : decode cX10_layGood 35 = .ok (.invokevirtual 236, 3) := by decide +kernel
theorem dX10_layGood_38 : decode cX10_layGood 38 = .ok (.aload_n 0, 1) := by decide +kernel
theorem dX10_layGood_39 : decode cX10_layGood 39 = .ok (.getfield 22, 3) := by decide +kernel
theorem dX10_layGood_42 : decode cX10_layGood 42 = .ok (.bipush 17, 2) := by decide +kernel
theorem dX10_layGood_44 : decode cX10_layGood 44 = .ok (.iaload, 1) := by decide +kernel
theorem dX10_layGood_45 : decode cX10_layGood 45 = .ok (.i2l, 1) := by decide +kernel
theorem dX10_layGood_46 : decode cX10_layGood 46 = .ok (.aload_n 0, 1) := by decide +kernel
theorem dX10_layGood_47 : decode cX10_layGood 47 = .ok (.invokevirtual 213, 3) := by decide +kernel
theorem dX10_layGood_50 : decode cX10_layGood 50 = .ok (.lmul, 1) := by decide +kernel
theorem dX10_layGood_51 : decode cX10_layGood 51 = .ok (.lcmp, 1) := by decide +kernel
theorem dX10_layGood_52 : decode cX10_layGood 52 = .ok (.ifCond .gt 7, 3) := by decide +kernel
theorem dX10_layGood_55 : decode cX10_layGood 55 = .ok (.iconst 1, 1) := by decide +kernel
theorem dX10_layGood_56 : decode cX10_layGood 56 = .ok (.goto 4, 3) := by decide +kernel
theorem dX10_layGood_59 : decode cX10_layGood 59 = .ok (.iconst 0, 1) := by decide +kernel
theorem dX10_layGood_60 : decode cX10_layGood 60 = .ok (.bastore, 1) := by decide +kernel
theorem dX10_layGood_61 : decode cX10_layGood 61 = .ok (.iinc 1 1, 3) := by decide +kernel
theorem dX10_layGood_64 : decode cX10_layGood 64 = .ok (.goto (-54), 3) := by decide +kernel
theorem dX10_layGood_67 : decode cX10_layGood 67 = .ok (.aload_n 0, 1) := by decide +kernel
theorem dX10_layGood_68 : decode cX10_layGood 68 = .ok (.iconst 0, 1) := by decide +kernel
theorem dX10_layGood_69 : decode cX10_layGood 69 = .ok (.putfield 47, 3) := by decide +kernel
theorem dX10_layGood_72 : decode cX10_layGood 72 = .ok (.return_, 1) := by decide +kernel
set_option maxRecDepth 20000 in
theorem ggX10_fits_X10_isLaw : GoodIn wsX10_fits wsX10_isLaw := goodIn_r _ [5, 6, 7, 8, 4, 9] (by decide +kernel) (by decide +kernel)
set_option maxRecDepth 20000 in
theorem gX10_fits_X10_isLaw : GoodIn wsX10_fits (va_wsS RX10 201 yX10_isLaw wsX10_isLaw) := goodIn_app (goodIn_of _ (by decide +kernel)) ggX10_fits_X10_isLaw
set_option maxRecDepth 20000 in
theorem ggX10_fits_X10_layGood : GoodIn wsX10_fits wsX10_layGood := goodIn_r _ [13, 14, 1, 15, 16, 17, 18, 4, 19, 20, 21, 22, 23, 24, 25, 26, 27, 28, 29, 30, 31, 32, 33, 34, 35, 36, 37, 38, 39, 40, 41, 42, 43, 44, 45, 46, 47, 48, 49, 50, 51, 52, 53, 54, 55, 56, 57, 58, 59, 60, 61, 62, 63, 64, 65, 66, 67, 68, 69, 70, 71, 72, 73, 74, 75, 76, 77, 78, 79, 80, 81, 82, 83, 84, 85, 86, 87, 88, 89, 90, 91] (by decide +kernel) (by decide +kernel)
set_option maxRecDepth 20000 in
theorem gX10_fits_X10_layGood : GoodIn wsX10_fits (wsV RX10 239 RX10 yX10_layGood wsX10_layGood) := goodIn_app (goodIn_of _ (by decide +kernel)) ggX10_fits_X10_layGood
theorem dX10_fits_0 : decode cX10_fits 0 = .ok (.iload_n 1, 1) := by decide +kernel
theorem dX10_fits_1 : decode cX10_fits 1 = .ok (.invokestatic 201, 3) := by decide +kernel
theorem dX10_fits_4 : decode cX10_fits 4 = .ok (.ifCond .ne 5, 3) := by decide +kernel
theorem dX10_fits_7 : decode cX10_fits 7 = .ok (.iconst (-1), 1) := by decide +kernel
theorem dX10_fits_8 : decode cX10_fits 8 = .ok (.ireturn, 1) := by decide +kernel
theorem dX10_fits_9 : decode cX10_fits 9 = .ok (.aload_n 0, 1) := by decide +kernel
theorem dX10_fits_10 : decode cX10_fits 10 = .ok (.invokevirtual 239, 3) := by decide +kernel
theorem dX10_fits_13 : decode cX10_fits 13 = .ok (.aload_n 0, 1) := by decide +kernel
theorem dX10_fits_14 : decode cX10_fits 14 = .ok (.getfield 51, 3) := by decide +kernel
theorem dX10_fits_17 : decode cX10_fits 17 = .ok (.iload_n 1, 1) := by decide +kernel
theorem dX10_fits_18 : decode cX10_fits 18 = .ok (.baload, 1) := by decide +kernel
theorem dX10_fits_19 : decode cX10_fits 19 = .ok (.ifCond .eq 7, 3) := by decide +kernel
theorem dX10_fits_22 : decode cX10_fits 22 = .ok (.iconst 1, 1) := by decide +kernel
theorem dX10_fits_23 : decode cX10_fits 23 = .ok (.goto 4, 3) := by decide +kernel
theorem dX10_fits_26 : decode cX10_fits 26 = .ok (.iconst 0, 1) := by decide +kernel
theorem dX10_fits_27 : decode cX10_fits 27 = .ok (.ireturn, 1) := by decide +kernel
theorem dX10_firstFrom_0 : decode cX10_firstFrom 0 = .ok (.iload_n 1, 1) := by decide +kernel
theorem dX10_firstFrom_1 : decode cX10_firstFrom 1 = .ok (.istore_n 2, 1) := by decide +kernel
theorem dX10_firstFrom_2 : decode cX10_firstFrom 2 = .ok (.iload_n 2, 1) := by decide +kernel
theorem dX10_firstFrom_3 : decode cX10_firstFrom 3 = .ok (.sipush 14641, 3) := by decide +kernel
theorem dX10_firstFrom_6 : decode cX10_firstFrom 6 = .ok (.if_icmp .ge 18, 3) := by decide +kernel
theorem dX10_firstFrom_9 : decode cX10_firstFrom 9 = .ok (.aload_n 0, 1) := by decide +kernel
theorem dX10_firstFrom_10 : decode cX10_firstFrom 10 = .ok (.getfield 51, 3) := by decide +kernel
theorem dX10_firstFrom_13 : decode cX10_firstFrom 13 = .ok (.iload_n 2, 1) := by decide +kernel
theorem dX10_firstFrom_14 : decode cX10_firstFrom 14 = .ok (.baload, 1) := by decide +kernel
theorem dX10_firstFrom_15 : decode cX10_firstFrom 15 = .ok (.ifCond .ne 9, 3) := by decide +kernel
theorem dX10_firstFrom_18 : decode cX10_firstFrom 18 = .ok (.iinc 2 1, 3) := by decide +kernel
theorem dX10_firstFrom_21 : decode cX10_firstFrom 21 = .ok (.goto (-19), 3) := by decide +kernel
theorem dX10_firstFrom_24 : decode cX10_firstFrom 24 = .ok (.iload_n 2, 1) := by decide +kernel
theorem dX10_firstFrom_25 : decode cX10_firstFrom 25 = .ok (.sipush 14641, 3) := by decide +kernel
theorem dX10_firstFrom_28 : decode cX10_firstFrom 28 = .ok (.if_icmp .ge 7, 3) := by decide +kernel
theorem dX10_firstFrom_31 : decode cX10_firstFrom 31 = .ok (.iload_n 2, 1) := by decide +kernel
theorem dX10_firstFrom_32 : decode cX10_firstFrom 32 = .ok (.goto 5, 3) := by decide +kernel
theorem dX10_firstFrom_35 : decode cX10_firstFrom 35 = .ok (.bipush (-4), 2) := by decide +kernel
theorem dX10_firstFrom_37 : decode cX10_firstFrom 37 = .ok (.ireturn, 1) := by decide +kernel
set_option maxRecDepth 20000 in
theorem ggX10_laws_X10_in : GoodIn wsX10_laws wsX10_in := goodIn_r _ [6] (by decide +kernel) (by decide +kernel)
set_option maxRecDepth 20000 in
theorem gX10_laws_X10_in : GoodIn wsX10_laws (va_wsS RX10 67 yX10_in wsX10_in) := goodIn_app (goodIn_of _ (by decide +kernel)) ggX10_laws_X10_in
set_option maxRecDepth 20000 in
theorem ggX10_laws_X10_layGood : GoodIn wsX10_laws wsX10_layGood := goodIn_r _ [10, 11, 2, 12, 13, 14, 15, 5, 16, 17, 18, 19, 20, 21, 22, 23, 24, 25, 26, 27, 28, 29, 30, 31, 32, 33, 34, 35, 36, 37, 38, 39, 40, 41, 42, 43, 44, 45, 46, 47, 48, 49, 50, 51, 52, 53, 54, 55, 56, 61, 62, 63, 64, 65, 66, 67, 68, 69, 70, 71, 72, 73, 74, 75, 76, 77, 78, 79, 80, 81, 82, 83, 84, 85, 86, 87, 88, 89, 90, 91, 92] (by decide +kernel) (by decide +kernel)
set_option maxRecDepth 20000 in
theorem gX10_laws_X10_layGood : GoodIn wsX10_laws (wsV RX10 239 RX10 yX10_layGood wsX10_layGood) := goodIn_app (goodIn_of _ (by decide +kernel)) ggX10_laws_X10_layGood
set_option maxRecDepth 20000 in
theorem ggX10_laws_X10_firstFrom : GoodIn wsX10_laws wsX10_firstFrom := goodIn_r _ [60, 2, 61, 62, 63, 64, 65, 66, 67, 68, 69, 70, 71, 72, 73, 74, 75, 76, 77, 78, 79, 80, 81, 82, 83, 84, 85, 86, 87, 88, 89, 90, 91, 92] (by decide +kernel) (by decide +kernel)
set_option maxRecDepth 20000 in
theorem gX10_laws_X10_firstFrom : GoodIn wsX10_laws (wsV RX10 242 RX10 yX10_firstFrom wsX10_firstFrom) := goodIn_app (goodIn_of _ (by decide +kernel)) ggX10_laws_X10_firstFrom
theorem dX10_laws_0 : decode cX10_laws 0 = .ok (.iload_n 1, 1) := by decide +kernel
theorem dX10_laws_1 : decode cX10_laws 1 = .ok (.i2l, 1) := by decide +kernel
theorem dX10_laws_2 : decode cX10_laws 2 = .ok (.lconst 0, 1) := by decide +kernel
theorem dX10_laws_3 : decode cX10_laws 3 = .ok (.ldc2_w 136, 3) := by decide +kernel
theorem dX10_laws_6 : decode cX10_laws 6 = .ok (.invokestatic 67, 3) := by decide +kernel
theorem dX10_laws_9 : decode cX10_laws 9 = .ok (.ifCond .ne 5, 3) := by decide +kernel
theorem dX10_laws_12 : decode cX10_laws 12 = .ok (.iconst (-1), 1) := by decide +kernel
theorem dX10_laws_13 : decode cX10_laws 13 = .ok (.ireturn, 1) := by decide +kernel
theorem dX10_laws_14 : decode cX10_laws 14 = .ok (.aload_n 0, 1) := by decide +kernel
theorem dX10_laws_15 : decode cX10_laws 15 = .ok (.invokevirtual 239, 3) := by decide +kernel
theorem dX10_laws_18 : decode cX10_laws 18 = .ok (.iconst 0, 1) := by decide +kernel
theorem dX10_laws_19 : decode cX10_laws 19 = .ok (.istore_n 2, 1) := by decide +kernel
theorem dX10_laws_20 : decode cX10_laws 20 = .ok (.bipush (-4), 2) := by decide +kernel
theorem dX10_laws_22 : decode cX10_laws 22 = .ok (.istore_n 3, 1) := by decide +kernel
theorem dX10_laws_23 : decode cX10_laws 23 = .ok (.iconst 0, 1) := by decide +kernel
theorem dX10_laws_24 : decode cX10_laws 24 = .ok (.istore 4, 2) := by decide +kernel
theorem dX10_laws_26 : decode cX10_laws 26 = .ok (.iload 4, 2) := by decide +kernel
theorem dX10_laws_28 : decode cX10_laws 28 = .ok (.sipush 14641, 3) := by decide +kernel
theorem dX10_laws_31 : decode cX10_laws 31 = .ok (.if_icmp .ge 44, 3) := by decide +kernel
theorem dX10_laws_34 : decode cX10_laws 34 = .ok (.iload_n 2, 1) := by decide +kernel
theorem dX10_laws_35 : decode cX10_laws 35 = .ok (.aload_n 0, 1) := by decide +kernel
theorem dX10_laws_36 : decode cX10_laws 36 = .ok (.getfield 51, 3) := by decide +kernel
theorem dX10_laws_39 : decode cX10_laws 39 = .ok (.iload 4, 2) := by decide +kernel
theorem dX10_laws_41 : decode cX10_laws 41 = .ok (.baload, 1) := by decide +kernel
theorem dX10_laws_42 : decode cX10_laws 42 = .ok (.ifCond .eq 7, 3) := by decide +kernel
theorem dX10_laws_45 : decode cX10_laws 45 = .ok (.iconst 1, 1) := by decide +kernel
theorem dX10_laws_46 : decode cX10_laws 46 = .ok (.goto 4, 3) := by decide +kernel
theorem dX10_laws_49 : decode cX10_laws 49 = .ok (.iconst 0, 1) := by decide +kernel
theorem dX10_laws_50 : decode cX10_laws 50 = .ok (.iadd, 1) := by decide +kernel
theorem dX10_laws_51 : decode cX10_laws 51 = .ok (.istore_n 2, 1) := by decide +kernel
theorem dX10_laws_52 : decode cX10_laws 52 = .ok (.aload_n 0, 1) := by decide +kernel
theorem dX10_laws_53 : decode cX10_laws 53 = .ok (.getfield 51, 3) := by decide +kernel
theorem dX10_laws_56 : decode cX10_laws 56 = .ok (.iload 4, 2) := by decide +kernel
theorem dX10_laws_58 : decode cX10_laws 58 = .ok (.baload, 1) := by decide +kernel
theorem dX10_laws_59 : decode cX10_laws 59 = .ok (.ifCond .eq 8, 3) := by decide +kernel
theorem dX10_laws_62 : decode cX10_laws 62 = .ok (.iload 4, 2) := by decide +kernel
theorem dX10_laws_64 : decode cX10_laws 64 = .ok (.goto 4, 3) := by decide +kernel
theorem dX10_laws_67 : decode cX10_laws 67 = .ok (.iload_n 3, 1) := by decide +kernel
theorem dX10_laws_68 : decode cX10_laws 68 = .ok (.istore_n 3, 1) := by decide +kernel
theorem dX10_laws_69 : decode cX10_laws 69 = .ok (.iinc 4 1, 3) := by decide +kernel
theorem dX10_laws_72 : decode cX10_laws 72 = .ok (.goto (-46), 3) := by decide +kernel
theorem dX10_laws_75 : decode cX10_laws 75 = .ok (.iload_n 1, 1) := by decide +kernel
theorem dX10_laws_76 : decode cX10_laws 76 = .ok (.ifCond .ne 7, 3) := by decide +kernel
theorem dX10_laws_79 : decode cX10_laws 79 = .ok (.iload_n 2, 1) := by decide +kernel
theorem dX10_laws_80 : decode cX10_laws 80 = .ok (.goto 17, 3) := by decide +kernel
theorem dX10_laws_83 : decode cX10_laws 83 = .ok (.iload_n 1, 1) := by decide +kernel
theorem dX10_laws_84 : decode cX10_laws 84 = .ok (.iconst 1, 1) := by decide +kernel
theorem dX10_laws_85 : decode cX10_laws 85 = .ok (.if_icmp .ne 11, 3) := by decide +kernel
theorem dX10_laws_88 : decode cX10_laws 88 = .ok (.aload_n 0, 1) := by decide +kernel
theorem dX10_laws_89 : decode cX10_laws 89 = .ok (.iconst 0, 1) := by decide +kernel
theorem dX10_laws_90 : decode cX10_laws 90 = .ok (.invokevirtual 242, 3) := by decide +kernel
theorem dX10_laws_93 : decode cX10_laws 93 = .ok (.goto 4, 3) := by decide +kernel
theorem dX10_laws_96 : decode cX10_laws 96 = .ok (.iload_n 3, 1) := by decide +kernel
theorem dX10_laws_97 : decode cX10_laws 97 = .ok (.ireturn, 1) := by decide +kernel
theorem dX10_fallsOf_0 : decode cX10_fallsOf 0 = .ok (.iload_n 0, 1) := by decide +kernel
theorem dX10_fallsOf_1 : decode cX10_fallsOf 1 = .ok (.istore_n 2, 1) := by decide +kernel
theorem dX10_fallsOf_2 : decode cX10_fallsOf 2 = .ok (.iconst 3, 1) := by decide +kernel
theorem dX10_fallsOf_3 : decode cX10_fallsOf 3 = .ok (.istore_n 3, 1) := by decide +kernel
theorem dX10_fallsOf_4 : decode cX10_fallsOf 4 = .ok (.iload_n 3, 1) := by decide +kernel
theorem dX10_fallsOf_5 : decode cX10_fallsOf 5 = .ok (.iload_n 1, 1) := by decide +kernel
theorem dX10_fallsOf_6 : decode cX10_fallsOf 6 = .ok (.if_icmp .le 14, 3) := by decide +kernel
theorem dX10_fallsOf_9 : decode cX10_fallsOf 9 = .ok (.iload_n 2, 1) := by decide +kernel
theorem dX10_fallsOf_10 : decode cX10_fallsOf 10 = .ok (.bipush 11, 2) := by decide +kernel
theorem dX10_fallsOf_12 : decode cX10_fallsOf 12 = .ok (.idiv, 1) := by decide +kernel
theorem dX10_fallsOf_13 : decode cX10_fallsOf 13 = .ok (.istore_n 2, 1) := by decide +kernel
theorem dX10_fallsOf_14 : decode cX10_fallsOf 14 = .ok (.iinc 3 (-1), 3) := by decide +kernel
theorem dX10_fallsOf_17 : decode cX10_fallsOf 17 = .ok (.goto (-13), 3) := by decide +kernel
theorem dX10_fallsOf_20 : decode cX10_fallsOf 20 = .ok (.iload_n 2, 1) := by decide +kernel
theorem dX10_fallsOf_21 : decode cX10_fallsOf 21 = .ok (.bipush 11, 2) := by decide +kernel
theorem dX10_fallsOf_23 : decode cX10_fallsOf 23 = .ok (.irem, 1) := by decide +kernel
theorem dX10_fallsOf_24 : decode cX10_fallsOf 24 = .ok (.ireturn, 1) := by decide +kernel
set_option maxRecDepth 20000 in
theorem ggX10_span_X10_isPart : GoodIn wsX10_span wsX10_isPart := goodIn_r _ [4, 5, 6, 7, 3, 8] (by decide +kernel) (by decide +kernel)
set_option maxRecDepth 20000 in
theorem gX10_span_X10_isPart : GoodIn wsX10_span (va_wsS RX10 132 yX10_isPart wsX10_isPart) := goodIn_app (goodIn_of _ (by decide +kernel)) ggX10_span_X10_isPart
set_option maxRecDepth 20000 in
theorem ggX10_span_X10_in : GoodIn wsX10_span wsX10_in := goodIn_r _ [8] (by decide +kernel) (by decide +kernel)
set_option maxRecDepth 20000 in
theorem gX10_span_X10_in : GoodIn wsX10_span (va_wsS RX10 67 yX10_in wsX10_in) := goodIn_app (goodIn_of _ (by decide +kernel)) ggX10_span_X10_in
set_option maxRecDepth 20000 in
theorem ggX10_span_X10_layGood : GoodIn wsX10_span wsX10_layGood := goodIn_r _ [12, 13, 14, 15, 16, 17, 18, 3, 19, 20, 21, 22, 23, 24, 25, 26, 27, 28, 29, 30, 31, 32, 33, 34, 35, 36, 37, 38, 39, 40, 41, 42, 43, 44, 45, 46, 47, 48, 49, 50, 51, 52, 53, 54, 55, 56, 57, 58, 59, 67, 68, 69, 70, 71, 72, 73, 74, 75, 76, 77, 78, 79, 80, 81, 82, 83, 84, 85, 86, 87, 88, 89, 90, 91, 92, 93, 94, 95, 96, 97, 98] (by decide +kernel) (by decide +kernel)
set_option maxRecDepth 20000 in
theorem gX10_span_X10_layGood : GoodIn wsX10_span (wsV RX10 239 RX10 yX10_layGood wsX10_layGood) := goodIn_app (goodIn_of _ (by decide +kernel)) ggX10_span_X10_layGood
set_option maxRecDepth 20000 in
theorem ggX10_span_X10_firstFrom : GoodIn wsX10_span wsX10_firstFrom := goodIn_r _ [63, 14, 67, 68, 69, 70, 71, 72, 73, 74, 75, 76, 77, 78, 79, 80, 81, 82, 83, 84, 85, 86, 87, 88, 89, 90, 91, 92, 93, 94, 95, 96, 97, 98] (by decide +kernel) (by decide +kernel)
set_option maxRecDepth 20000 in
theorem gX10_span_X10_firstFrom : GoodIn wsX10_span (wsV RX10 242 RX10 yX10_firstFrom wsX10_firstFrom) := goodIn_app (goodIn_of _ (by decide +kernel)) ggX10_span_X10_firstFrom
set_option maxRecDepth 20000 in
theorem ggX10_span_X10_fallsOf : GoodIn wsX10_span wsX10_fallsOf := goodIn_r _ [66] (by decide +kernel) (by decide +kernel)
set_option maxRecDepth 20000 in
theorem gX10_span_X10_fallsOf : GoodIn wsX10_span (va_wsS RX10 245 yX10_fallsOf wsX10_fallsOf) := goodIn_app (goodIn_of _ (by decide +kernel)) ggX10_span_X10_fallsOf
theorem dX10_span_0 : decode cX10_span 0 = .ok (.iload_n 1, 1) := by decide +kernel
theorem dX10_span_1 : decode cX10_span 1 = .ok (.invokestatic 132, 3) := by decide +kernel
theorem dX10_span_4 : decode cX10_span 4 = .ok (.ifCond .eq 13, 3) := by decide +kernel
theorem dX10_span_7 : decode cX10_span 7 = .ok (.iload_n 2, 1) := by decide +kernel
theorem dX10_span_8 : decode cX10_span 8 = .ok (.i2l, 1) := by decide +kernel
theorem dX10_span_9 : decode cX10_span 9 = .ok (.lconst 0, 1) := by decide +kernel
theorem dX10_span_10 : decode cX10_span 10 = .ok (.lconst 1, 1) := by decide +kernel
theorem dX10_span_11 : decode cX10_span 11 = .ok (.invokestatic 67, 3) := by decide +kernel
theorem dX10_span_14 : decode cX10_span 14 = .ok (.ifCond .ne 5, 3) := by decide +kernel
theorem dX10_span_17 : decode cX10_span 17 = .ok (.iconst (-1), 1) := by decide +kernel
theorem dX10_span_18 : decode cX10_span 18 = .ok (.ireturn, 1) := by decide +kernel
theorem dX10_span_19 : decode cX10_span 19 = .ok (.aload_n 0, 1) := by decide +kernel
theorem dX10_span_20 : decode cX10_span 20 = .ok (.invokevirtual 239, 3) := by decide +kernel
theorem dX10_span_23 : decode cX10_span 23 = .ok (.bipush 100, 2) := by decide +kernel
theorem dX10_span_25 : decode cX10_span 25 = .ok (.istore_n 3, 1) := by decide +kernel
theorem dX10_span_26 : decode cX10_span 26 = .ok (.bipush (-4), 2) := by decide +kernel
theorem dX10_span_28 : decode cX10_span 28 = .ok (.istore 4, 2) := by decide +kernel
theorem dX10_span_30 : decode cX10_span 30 = .ok (.aload_n 0, 1) := by decide +kernel
theorem dX10_span_31 : decode cX10_span 31 = .ok (.iconst 0, 1) := by decide +kernel
theorem dX10_span_32 : decode cX10_span 32 = .ok (.invokevirtual 242, 3) := by decide +kernel
theorem dX10_span_35 : decode cX10_span 35 = .ok (.istore 5, 2) := by decide +kernel
theorem dX10_span_37 : decode cX10_span 37 = .ok (.iload 5, 2) := by decide +kernel
theorem dX10_span_39 : decode cX10_span 39 = .ok (.bipush (-4), 2) := by decide +kernel
theorem dX10_span_41 : decode cX10_span 41 = .ok (.if_icmp .eq 53, 3) := by decide +kernel
theorem dX10_span_44 : decode cX10_span 44 = .ok (.iload 5, 2) := by decide +kernel
theorem dX10_span_46 : decode cX10_span 46 = .ok (.iload_n 1, 1) := by decide +kernel
theorem dX10_span_47 : decode cX10_span 47 = .ok (.invokestatic 245, 3) := by decide +kernel
theorem dX10_span_50 : decode cX10_span 50 = .ok (.istore 6, 2) := by decide +kernel
theorem dX10_span_52 : decode cX10_span 52 = .ok (.iload 6, 2) := by decide +kernel
theorem dX10_span_54 : decode cX10_span 54 = .ok (.iload_n 3, 1) := by decide +kernel
theorem dX10_span_55 : decode cX10_span 55 = .ok (.if_icmp .ge 8, 3) := by decide +kernel
theorem dX10_span_58 : decode cX10_span 58 = .ok (.iload 6, 2) := by decide +kernel
theorem dX10_span_60 : decode cX10_span 60 = .ok (.goto 4, 3) := by decide +kernel
theorem dX10_span_63 : decode cX10_span 63 = .ok (.iload_n 3, 1) := by decide +kernel
theorem dX10_span_64 : decode cX10_span 64 = .ok (.istore_n 3, 1) := by decide +kernel
theorem dX10_span_65 : decode cX10_span 65 = .ok (.iload 6, 2) := by decide +kernel
theorem dX10_span_67 : decode cX10_span 67 = .ok (.iload 4, 2) := by decide +kernel
theorem dX10_span_69 : decode cX10_span 69 = .ok (.if_icmp .le 8, 3) := by decide +kernel
theorem dX10_span_72 : decode cX10_span 72 = .ok (.iload 6, 2) := by decide +kernel
theorem dX10_span_74 : decode cX10_span 74 = .ok (.goto 5, 3) := by decide +kernel
theorem dX10_span_77 : decode cX10_span 77 = .ok (.iload 4, 2) := by decide +kernel
theorem dX10_span_79 : decode cX10_span 79 = .ok (.istore 4, 2) := by decide +kernel
theorem dX10_span_81 : decode cX10_span 81 = .ok (.aload_n 0, 1) := by decide +kernel
theorem dX10_span_82 : decode cX10_span 82 = .ok (.iload 5, 2) := by decide +kernel
theorem dX10_span_84 : decode cX10_span 84 = .ok (.iconst 1, 1) := by decide +kernel
theorem dX10_span_85 : decode cX10_span 85 = .ok (.iadd, 1) := by decide +kernel
theorem dX10_span_86 : decode cX10_span 86 = .ok (.invokevirtual 242, 3) := by decide +kernel
theorem dX10_span_89 : decode cX10_span 89 = .ok (.istore 5, 2) := by decide +kernel
theorem dX10_span_91 : decode cX10_span 91 = .ok (.goto (-54), 3) := by decide +kernel
theorem dX10_span_94 : decode cX10_span 94 = .ok (.iload 4, 2) := by decide +kernel
theorem dX10_span_96 : decode cX10_span 96 = .ok (.bipush (-4), 2) := by decide +kernel
theorem dX10_span_98 : decode cX10_span 98 = .ok (.if_icmp .ne 8, 3) := by decide +kernel
theorem dX10_span_101 : decode cX10_span 101 = .ok (.bipush (-4), 2) := by decide +kernel
theorem dX10_span_103 : decode cX10_span 103 = .ok (.goto 13, 3) := by decide +kernel
theorem dX10_span_106 : decode cX10_span 106 = .ok (.iload_n 2, 1) := by decide +kernel
theorem dX10_span_107 : decode cX10_span 107 = .ok (.ifCond .ne 7, 3) := by decide +kernel
theorem dX10_span_110 : decode cX10_span 110 = .ok (.iload_n 3, 1) := by decide +kernel
theorem dX10_span_111 : decode cX10_span 111 = .ok (.goto 5, 3) := by decide +kernel
theorem dX10_span_114 : decode cX10_span 114 = .ok (.iload 4, 2) := by decide +kernel
theorem dX10_span_116 : decode cX10_span 116 = .ok (.ireturn, 1) := by decide +kernel
set_option maxRecDepth 20000 in
theorem ggX10_say_X10_isPart : GoodIn wsX10_say wsX10_isPart := goodIn_r _ [4, 5, 6, 7, 3, 8] (by decide +kernel) (by decide +kernel)
set_option maxRecDepth 20000 in
theorem gX10_say_X10_isPart : GoodIn wsX10_say (va_wsS RX10 132 yX10_isPart wsX10_isPart) := goodIn_app (goodIn_of _ (by decide +kernel)) ggX10_say_X10_isPart
set_option maxRecDepth 20000 in
theorem ggX10_say_X10_layGood : GoodIn wsX10_say wsX10_layGood := goodIn_r _ [12, 13, 14, 15, 16, 17, 18, 3, 19, 20, 21, 22, 23, 24, 25, 26, 27, 28, 29, 30, 31, 32, 33, 34, 35, 36, 37, 38, 39, 40, 41, 42, 43, 44, 45, 46, 47, 48, 49, 50, 51, 52, 53, 54, 55, 56, 57, 58, 59, 67, 68, 69, 70, 71, 72, 73, 74, 75, 76, 77, 78, 79, 80, 81, 82, 83, 84, 85, 86, 87, 88, 89, 90, 91, 92, 93, 94, 95, 96, 97, 98] (by decide +kernel) (by decide +kernel)
set_option maxRecDepth 20000 in
theorem gX10_say_X10_layGood : GoodIn wsX10_say (wsV RX10 239 RX10 yX10_layGood wsX10_layGood) := goodIn_app (goodIn_of _ (by decide +kernel)) ggX10_say_X10_layGood
set_option maxRecDepth 20000 in
theorem ggX10_say_X10_firstFrom : GoodIn wsX10_say wsX10_firstFrom := goodIn_r _ [63, 14, 67, 68, 69, 70, 71, 72, 73, 74, 75, 76, 77, 78, 79, 80, 81, 82, 83, 84, 85, 86, 87, 88, 89, 90, 91, 92, 93, 94, 95, 96, 97, 98] (by decide +kernel) (by decide +kernel)
set_option maxRecDepth 20000 in
theorem gX10_say_X10_firstFrom : GoodIn wsX10_say (wsV RX10 242 RX10 yX10_firstFrom wsX10_firstFrom) := goodIn_app (goodIn_of _ (by decide +kernel)) ggX10_say_X10_firstFrom
set_option maxRecDepth 20000 in
theorem ggX10_say_X10_fallsOf : GoodIn wsX10_say wsX10_fallsOf := goodIn_r _ [66] (by decide +kernel) (by decide +kernel)
set_option maxRecDepth 20000 in
theorem gX10_say_X10_fallsOf : GoodIn wsX10_say (va_wsS RX10 245 yX10_fallsOf wsX10_fallsOf) := goodIn_app (goodIn_of _ (by decide +kernel)) ggX10_say_X10_fallsOf
theorem dX10_say_0 : decode cX10_say 0 = .ok (.iload_n 1, 1) := by decide +kernel
theorem dX10_say_1 : decode cX10_say 1 = .ok (.invokestatic 132, 3) := by decide +kernel
theorem dX10_say_4 : decode cX10_say 4 = .ok (.ifCond .eq 15, 3) := by decide +kernel
theorem dX10_say_7 : decode cX10_say 7 = .ok (.iload_n 2, 1) := by decide +kernel
theorem dX10_say_8 : decode cX10_say 8 = .ok (.invokestatic 132, 3) := by decide +kernel
theorem dX10_say_11 : decode cX10_say 11 = .ok (.ifCond .eq 8, 3) := by decide +kernel
theorem dX10_say_14 : decode cX10_say 14 = .ok (.iload_n 1, 1) := by decide +kernel
theorem dX10_say_15 : decode cX10_say 15 = .ok (.iload_n 2, 1) := by decide +kernel
theorem dX10_say_16 : decode cX10_say 16 = .ok (.if_icmp .ne 5, 3) := by decide +kernel
theorem dX10_say_19 : decode cX10_say 19 = .ok (.iconst (-1), 1) := by decide +kernel
theorem dX10_say_20 : decode cX10_say 20 = .ok (.ireturn, 1) := by decide +kernel
theorem dX10_say_21 : decode cX10_say 21 = .ok (.aload_n 0, 1) := by decide +kernel
theorem dX10_say_22 : decode cX10_say 22 = .ok (.invokevirtual 239, 3) := by decide +kernel
theorem dX10_say_25 : decode cX10_say 25 = .ok (.iconst 0, 1) := by decide +kernel
theorem dX10_say_26 : decode cX10_say 26 = .ok (.istore_n 3, 1) := by decide +kernel
theorem dX10_say_27 : decode cX10_say 27 = .ok (.iconst 0, 1) := by decide +kernel
theorem dX10_say_28 : decode cX10_say 28 = .ok (.istore 4, 2) := by decide +kernel
theorem dX10_say_30 : decode cX10_say 30 = .ok (.aload_n 0, 1) := by decide +kernel
theorem dX10_say_31 : decode cX10_say 31 = .ok (.iconst 0, 1) := by decide +kernel
theorem dX10_say_32 : decode cX10_say 32 = .ok (.invokevirtual 242, 3) := by decide +kernel
theorem dX10_say_35 : decode cX10_say 35 = .ok (.istore 5, 2) := by decide +kernel
theorem dX10_say_37 : decode cX10_say 37 = .ok (.iload 5, 2) := by decide +kernel
theorem dX10_say_39 : decode cX10_say 39 = .ok (.bipush (-4), 2) := by decide +kernel
theorem dX10_say_41 : decode cX10_say 41 = .ok (.if_icmp .eq 42, 3) := by decide +kernel
theorem dX10_say_44 : decode cX10_say 44 = .ok (.iinc 4 1, 3) := by decide +kernel
theorem dX10_say_47 : decode cX10_say 47 = .ok (.iload_n 3, 1) := by decide +kernel
theorem dX10_say_48 : decode cX10_say 48 = .ok (.iload 5, 2) := by decide +kernel
theorem dX10_say_50 : decode cX10_say 50 = .ok (.iload_n 1, 1) := by decide +kernel
theorem dX10_say_51 : decode cX10_say 51 = .ok (.invokestatic 245, 3) := by decide +kernel
theorem dX10_say_54 : decode cX10_say 54 = .ok (.iload 5, 2) := by decide +kernel
theorem dX10_say_56 : decode cX10_say 56 = .ok (.iload_n 2, 1) := by decide +kernel
theorem dX10_say_57 : decode cX10_say 57 = .ok (.invokestatic 245, 3) := by decide +kernel
theorem dX10_say_60 : decode cX10_say 60 = .ok (.if_icmp .le 7, 3) := by decide +kernel
theorem dX10_say_63 : decode cX10_say 63 = .ok (.iconst 1, 1) := by decide +kernel
theorem dX10_say_64 : decode cX10_say 64 = .ok (.goto 4, 3) := by decide +kernel
theorem dX10_say_67 : decode cX10_say 67 = .ok (.iconst 0, 1) := by decide +kernel
theorem dX10_say_68 : decode cX10_say 68 = .ok (.iadd, 1) := by decide +kernel
theorem dX10_say_69 : decode cX10_say 69 = .ok (.istore_n 3, 1) := by decide +kernel
theorem dX10_say_70 : decode cX10_say 70 = .ok (.aload_n 0, 1) := by decide +kernel
theorem dX10_say_71 : decode cX10_say 71 = .ok (.iload 5, 2) := by decide +kernel
theorem dX10_say_73 : decode cX10_say 73 = .ok (.iconst 1, 1) := by decide +kernel
theorem dX10_say_74 : decode cX10_say 74 = .ok (.iadd, 1) := by decide +kernel
theorem dX10_say_75 : decode cX10_say 75 = .ok (.invokevirtual 242, 3) := by decide +kernel
theorem dX10_say_78 : decode cX10_say 78 = .ok (.istore 5, 2) := by decide +kernel
theorem dX10_say_80 : decode cX10_say 80 = .ok (.goto (-43), 3) := by decide +kernel
theorem dX10_say_83 : decode cX10_say 83 = .ok (.iload 4, 2) := by decide +kernel
theorem dX10_say_85 : decode cX10_say 85 = .ok (.ifCond .ne 8, 3) := by decide +kernel
theorem dX10_say_88 : decode cX10_say 88 = .ok (.bipush (-4), 2) := by decide +kernel
theorem dX10_say_90 : decode cX10_say 90 = .ok (.goto 22, 3) := by decide +kernel
theorem dX10_say_93 : decode cX10_say 93 = .ok (.iload_n 3, 1) := by decide +kernel
theorem dX10_say_94 : decode cX10_say 94 = .ok (.iload 4, 2) := by decide +kernel
theorem dX10_say_96 : decode cX10_say 96 = .ok (.if_icmp .ne 7, 3) := by decide +kernel
theorem dX10_say_99 : decode cX10_say 99 = .ok (.iconst 1, 1) := by decide +kernel
theorem dX10_say_100 : decode cX10_say 100 = .ok (.goto 12, 3) := by decide +kernel
theorem dX10_say_103 : decode cX10_say 103 = .ok (.iload_n 3, 1) := by decide +kernel
theorem dX10_say_104 : decode cX10_say 104 = .ok (.ifCond .ne 7, 3) := by decide +kernel
theorem dX10_say_107 : decode cX10_say 107 = .ok (.iconst 2, 1) := by decide +kernel
theorem dX10_say_108 : decode cX10_say 108 = .ok (.goto 4, 3) := by decide +kernel
theorem dX10_say_111 : decode cX10_say 111 = .ok (.iconst 0, 1) := by decide +kernel
theorem dX10_say_112 : decode cX10_say 112 = .ok (.ireturn, 1) := by decide +kernel
set_option maxRecDepth 20000 in
theorem ggX10_cost_X10_power : GoodIn wsX10_cost wsX10_power := goodIn_r _ [6] (by decide +kernel) (by decide +kernel)
set_option maxRecDepth 20000 in
theorem gX10_cost_X10_power : GoodIn wsX10_cost (va_wsS RX10 195 yX10_power wsX10_power) := goodIn_app (goodIn_of _ (by decide +kernel)) ggX10_cost_X10_power
theorem dX10_cost_0 : decode cX10_cost 0 = .ok (.iconst 1, 1) := by decide +kernel
theorem dX10_cost_1 : decode cX10_cost 1 = .ok (.istore_n 1, 1) := by decide +kernel
theorem dX10_cost_2 : decode cX10_cost 2 = .ok (.iload_n 1, 1) := by decide +kernel
theorem dX10_cost_3 : decode cX10_cost 3 = .ok (.bipush 100, 2) := by decide +kernel
theorem dX10_cost_5 : decode cX10_cost 5 = .ok (.if_icmp .gt 86, 3) := by decide +kernel
theorem dX10_cost_8 : decode cX10_cost 8 = .ok (.lconst 0, 1) := by decide +kernel
theorem dX10_cost_9 : decode cX10_cost 9 = .ok (.lstore_n 2, 1) := by decide +kernel
theorem dX10_cost_10 : decode cX10_cost 10 = .ok (.iconst 1, 1) := by decide +kernel
theorem dX10_cost_11 : decode cX10_cost 11 = .ok (.istore 4, 2) := by decide +kernel
theorem dX10_cost_13 : decode cX10_cost 13 = .ok (.iload 4, 2) := by decide +kernel
theorem dX10_cost_15 : decode cX10_cost 15 = .ok (.iconst 3, 1) := by decide +kernel
theorem dX10_cost_16 : decode cX10_cost 16 = .ok (.if_icmp .gt 41, 3) := by decide +kernel
theorem dX10_cost_19 : decode cX10_cost 19 = .ok (.lload_n 2, 1) := by decide +kernel
theorem dX10_cost_20 : decode cX10_cost 20 = .ok (.aload_n 0, 1) := by decide +kernel
theorem dX10_cost_21 : decode cX10_cost 21 = .ok (.getfield 28, 3) := by decide +kernel
theorem dX10_cost_24 : decode cX10_cost 24 = .ok (.iconst 1, 1) := by decide +kernel
theorem dX10_cost_25 : decode cX10_cost 25 = .ok (.iload 4, 2) := by decide +kernel
theorem dX10_cost_27 : decode cX10_cost 27 = .ok (.iadd, 1) := by decide +kernel
theorem dX10_cost_28 : decode cX10_cost 28 = .ok (.iaload, 1) := by decide +kernel
theorem dX10_cost_29 : decode cX10_cost 29 = .ok (.i2l, 1) := by decide +kernel
theorem dX10_cost_30 : decode cX10_cost 30 = .ok (.ldc2_w 115, 3) := by decide +kernel
theorem dX10_cost_33 : decode cX10_cost 33 = .ok (.iload 4, 2) := by decide +kernel
theorem dX10_cost_35 : decode cX10_cost 35 = .ok (.invokestatic 195, 3) := by decide +kernel
theorem dX10_cost_38 : decode cX10_cost 38 = .ok (.lmul, 1) := by decide +kernel
theorem dX10_cost_39 : decode cX10_cost 39 = .ok (.iload_n 1, 1) := by decide +kernel
theorem dX10_cost_40 : decode cX10_cost 40 = .ok (.i2l, 1) := by decide +kernel
theorem dX10_cost_41 : decode cX10_cost 41 = .ok (.iconst 3, 1) := by decide +kernel
theorem dX10_cost_42 : decode cX10_cost 42 = .ok (.iload 4, 2) := by decide +kernel
theorem dX10_cost_44 : decode cX10_cost 44 = .ok (.isub, 1) := by decide +kernel
theorem dX10_cost_45 : decode cX10_cost 45 = .ok (.invokestatic 195, 3) := by decide +kernel
theorem dX10_cost_48 : decode cX10_cost 48 = .ok (.lmul, 1) := by decide +kernel
theorem dX10_cost_49 : decode cX10_cost 49 = .ok (.ladd, 1) := by decide +kernel
theorem dX10_cost_50 : decode cX10_cost 50 = .ok (.lstore_n 2, 1) := by decide +kernel
theorem dX10_cost_51 : decode cX10_cost 51 = .ok (.iinc 4 1, 3) := by decide +kernel
theorem dX10_cost_54 : decode cX10_cost 54 = .ok (.goto (-41), 3) := by decide +kernel
theorem dX10_cost_57 : decode cX10_cost 57 = .ok (.lload_n 2, 1) := by decide +kernel
theorem dX10_cost_58 : decode cX10_cost 58 = .ok (.aload_n 0, 1) := by decide +kernel
theorem dX10_cost_59 : decode cX10_cost 59 = .ok (.getfield 28, 3) := by decide +kernel
theorem dX10_cost_62 : decode cX10_cost 62 = .ok (.iconst 0, 1) := by decide +kernel
theorem dX10_cost_63 : decode cX10_cost 63 = .ok (.iaload, 1) := by decide +kernel
theorem dX10_cost_64 : decode cX10_cost 64 = .ok (.aload_n 0, 1) := by decide +kernel
theorem dX10_cost_65 : decode cX10_cost 65 = .ok (.getfield 28, 3) := by decide +kernel
theorem dX10_cost_68 : decode cX10_cost 68 = .ok (.iconst 1, 1) := by decide +kernel
theorem dX10_cost_69 : decode cX10_cost 69 = .ok (.iaload, 1) := by decide +kernel
theorem dX10_cost_70 : decode cX10_cost 70 = .ok (.isub, 1) := by decide +kernel
theorem dX10_cost_71 : decode cX10_cost 71 = .ok (.i2l, 1) := by decide +kernel
theorem dX10_cost_72 : decode cX10_cost 72 = .ok (.iload_n 1, 1) := by decide +kernel
theorem dX10_cost_73 : decode cX10_cost 73 = .ok (.i2l, 1) := by decide +kernel
theorem dX10_cost_74 : decode cX10_cost 74 = .ok (.iconst 3, 1) := by decide +kernel
theorem dX10_cost_75 : decode cX10_cost 75 = .ok (.invokestatic 195, 3) := by decide +kernel
theorem dX10_cost_78 : decode cX10_cost 78 = .ok (.lmul, 1) := by decide +kernel
theorem dX10_cost_79 : decode cX10_cost 79 = .ok (.lcmp, 1) := by decide +kernel
theorem dX10_cost_80 : decode cX10_cost 80 = .ok (.ifCond .gt 5, 3) := by decide +kernel
theorem dX10_cost_83 : decode cX10_cost 83 = .ok (.iload_n 1, 1) := by decide +kernel
theorem dX10_cost_84 : decode cX10_cost 84 = .ok (.ireturn, 1) := by decide +kernel
theorem dX10_cost_85 : decode cX10_cost 85 = .ok (.iinc 1 1, 3) := by decide +kernel
theorem dX10_cost_88 : decode cX10_cost 88 = .ok (.goto (-86), 3) := by decide +kernel
theorem dX10_cost_91 : decode cX10_cost 91 = .ok (.bipush (-4), 2) := by decide +kernel
theorem dX10_cost_93 : decode cX10_cost 93 = .ok (.ireturn, 1) := by decide +kernel
set_option maxRecDepth 20000 in
theorem ggX10_near_X10_isLaw : GoodIn wsX10_near wsX10_isLaw := goodIn_r _ [5, 6, 7, 8, 4, 9] (by decide +kernel) (by decide +kernel)
set_option maxRecDepth 20000 in
theorem gX10_near_X10_isLaw : GoodIn wsX10_near (va_wsS RX10 201 yX10_isLaw wsX10_isLaw) := goodIn_app (goodIn_of _ (by decide +kernel)) ggX10_near_X10_isLaw
set_option maxRecDepth 20000 in
theorem ggX10_near_X10_layLaw : GoodIn wsX10_near wsX10_layLaw := goodIn_r _ [13, 14, 15, 16, 17, 18, 19, 55, 56, 57, 58, 59, 60, 61, 62, 63, 64, 65, 66, 67, 68, 69, 70, 71, 72, 73, 74, 75, 76, 77, 78, 79, 80, 81, 82, 83, 84, 85, 86] (by decide +kernel) (by decide +kernel)
set_option maxRecDepth 20000 in
theorem gX10_near_X10_layLaw : GoodIn wsX10_near (wsV RX10 206 RX10 yX10_layLaw wsX10_layLaw) := goodIn_app (goodIn_of _ (by decide +kernel)) ggX10_near_X10_layLaw
set_option maxRecDepth 20000 in
theorem ggX10_near_X10_farthest : GoodIn wsX10_near wsX10_farthest := goodIn_r _ [23, 24, 25, 26, 27, 4, 28, 17, 14, 15, 29, 30, 31, 32, 33, 34, 35, 36, 19, 37, 38, 39, 40, 41, 42, 43, 16, 55, 56, 57, 58, 59, 60, 61, 62, 63, 64, 65, 66, 67, 68, 69, 70, 71, 72, 73, 74, 75, 76, 77, 78, 79, 80, 81, 82, 83, 84, 85, 86] (by decide +kernel) (by decide +kernel)
set_option maxRecDepth 20000 in
theorem gX10_near_X10_farthest : GoodIn wsX10_near (wsV RX10 236 RX10 yX10_farthest wsX10_farthest) := goodIn_app (goodIn_of _ (by decide +kernel)) ggX10_near_X10_farthest
set_option maxRecDepth 20000 in
theorem ggX10_near_X10_whole : GoodIn wsX10_near wsX10_whole := goodIn_r _ [36, 19, 15, 29, 30, 31, 4, 32, 55, 56, 57, 58, 59, 60, 61, 62, 63, 64, 65, 66, 67, 68, 69, 70, 71, 72, 73, 74, 75, 76, 77, 78, 79, 80, 81, 82, 83, 84, 85, 86] (by decide +kernel) (by decide +kernel)
set_option maxRecDepth 20000 in
theorem gX10_near_X10_whole : GoodIn wsX10_near (wsV RX10 213 RX10 yX10_whole wsX10_whole) := goodIn_app (goodIn_of _ (by decide +kernel)) ggX10_near_X10_whole
set_option maxRecDepth 20000 in
theorem ggX10_near_X10_isSeen : GoodIn wsX10_near wsX10_isSeen := goodIn_r _ [47, 48, 16, 49, 50, 51, 52, 53, 4, 54, 18, 37, 38, 39, 55, 56, 57, 58, 59, 60, 61, 62, 63, 64, 65, 66, 67, 68, 69, 70, 71, 72, 73, 74, 75, 76, 77, 78, 79, 80, 81, 82, 83, 84, 85, 86] (by decide +kernel) (by decide +kernel)
set_option maxRecDepth 20000 in
theorem gX10_near_X10_isSeen : GoodIn wsX10_near (wsV RX10 232 RX10 yX10_isSeen wsX10_isSeen) := goodIn_app (goodIn_of _ (by decide +kernel)) ggX10_near_X10_isSeen
theorem dX10_near_0 : decode cX10_near 0 = .ok (.iload_n 1, 1) := by decide +kernel
theorem dX10_near_1 : decode cX10_near 1 = .ok (.invokestatic 201, 3) := by decide +kernel
theorem dX10_near_4 : decode cX10_near 4 = .ok (.ifCond .ne 5, 3) := by decide +kernel
theorem dX10_near_7 : decode cX10_near 7 = .ok (.iconst (-1), 1) := by decide +kernel
theorem dX10_near_8 : decode cX10_near 8 = .ok (.ireturn, 1) := by decide +kernel
theorem dX10_near_9 : decode cX10_near 9 = .ok (.aload_n 0, 1) := by decide +kernel
theorem dX10_near_10 : decode cX10_near 10 = .ok (.iload_n 1, 1) := by decide +kernel
theorem dX10_near_11 : decode cX10_near 11 = .ok (.invokevirtual 206, 3) := by decide +kernel
theorem dX10_near_14 : decode cX10_near 14 = .ok (.aload_n 0, 1) := by decide +kernel
theorem dX10_near_15 : decode cX10_near 15 = .ok (.invokevirtual 236, 3) := by decide +kernel
theorem dX10_near_18 : decode cX10_near 18 = .ok (.aload_n 0, 1) := by decide +kernel
theorem dX10_near_19 : decode cX10_near 19 = .ok (.invokevirtual 213, 3) := by decide +kernel
theorem dX10_near_22 : decode cX10_near 22 = .ok (.ladd, 1) := by decide +kernel
theorem dX10_near_23 : decode cX10_near 23 = .ok (.lconst 1, 1) := by decide +kernel
theorem dX10_near_24 : decode cX10_near 24 = .ok (.lsub, 1) := by decide +kernel
theorem dX10_near_25 : decode cX10_near 25 = .ok (.aload_n 0, 1) := by decide +kernel
theorem dX10_near_26 : decode cX10_near 26 = .ok (.invokevirtual 213, 3) := by decide +kernel
theorem dX10_near_29 : decode cX10_near 29 = .ok (.ldiv, 1) := by decide +kernel
theorem dX10_near_30 : decode cX10_near 30 = .ok (.lstore_n 2, 1) := by decide +kernel
theorem dX10_near_31 : decode cX10_near 31 = .ok (.aload_n 0, 1) := by decide +kernel
theorem dX10_near_32 : decode cX10_near 32 = .ok (.invokevirtual 232, 3) := by decide +kernel
theorem dX10_near_35 : decode cX10_near 35 = .ok (.ifCond .eq 16, 3) := by decide +kernel
theorem dX10_near_38 : decode cX10_near 38 = .ok (.lload_n 2, 1) := by decide +kernel
theorem dX10_near_39 : decode cX10_near 39 = .ok (.ldc2_w 150, 3) := by decide +kernel
theorem dX10_near_42 : decode cX10_near 42 = .ok (.lcmp, 1) := by decide +kernel
theorem dX10_near_43 : decode cX10_near 43 = .ok (.ifCond .gt 8, 3) := by decide +kernel
theorem dX10_near_46 : decode cX10_near 46 = .ok (.lload_n 2, 1) := by decide +kernel
theorem dX10_near_47 : decode cX10_near 47 = .ok (.l2i, 1) := by decide +kernel
theorem dX10_near_48 : decode cX10_near 48 = .ok (.goto 5, 3) := by decide +kernel
theorem dX10_near_51 : decode cX10_near 51 = .ok (.bipush (-4), 2) := by decide +kernel
theorem dX10_near_53 : decode cX10_near 53 = .ok (.ireturn, 1) := by decide +kernel
theorem dX10_weightOf_0 : decode cX10_weightOf 0 = .ok (.iconst 0, 1) := by decide +kernel
theorem dX10_weightOf_1 : decode cX10_weightOf 1 = .ok (.istore_n 2, 1) := by decide +kernel
theorem dX10_weightOf_2 : decode cX10_weightOf 2 = .ok (.iconst 0, 1) := by decide +kernel
theorem dX10_weightOf_3 : decode cX10_weightOf 3 = .ok (.istore_n 3, 1) := by decide +kernel
theorem dX10_weightOf_4 : decode cX10_weightOf 4 = .ok (.iload_n 3, 1) := by decide +kernel
theorem dX10_weightOf_5 : decode cX10_weightOf 5 = .ok (.iconst 4, 1) := by decide +kernel
theorem dX10_weightOf_6 : decode cX10_weightOf 6 = .ok (.if_icmp .ge 27, 3) := by decide +kernel
theorem dX10_weightOf_9 : decode cX10_weightOf 9 = .ok (.iload_n 2, 1) := by decide +kernel
theorem dX10_weightOf_10 : decode cX10_weightOf 10 = .ok (.iload_n 1, 1) := by decide +kernel
theorem dX10_weightOf_11 : decode cX10_weightOf 11 = .ok (.iload_n 3, 1) := by decide +kernel
theorem dX10_weightOf_12 : decode cX10_weightOf 12 = .ok (.ishr, 1) := by decide +kernel
theorem dX10_weightOf_13 : decode cX10_weightOf 13 = .ok (.iconst 1, 1) := by decide +kernel
theorem dX10_weightOf_14 : decode cX10_weightOf 14 = .ok (.iand, 1) := by decide +kernel
theorem dX10_weightOf_15 : decode cX10_weightOf 15 = .ok (.aload_n 0, 1) := by decide +kernel
theorem dX10_weightOf_16 : decode cX10_weightOf 16 = .ok (.getfield 22, 3) := by decide +kernel
theorem dX10_weightOf_19 : decode cX10_weightOf 19 = .ok (.bipush 8, 2) := by decide +kernel
theorem dX10_weightOf_21 : decode cX10_weightOf 21 = .ok (.iload_n 3, 1) := by decide +kernel
theorem dX10_weightOf_22 : decode cX10_weightOf 22 = .ok (.iadd, 1) := by decide +kernel
theorem dX10_weightOf_23 : decode cX10_weightOf 23 = .ok (.iaload, 1) := by decide +kernel
theorem dX10_weightOf_24 : decode cX10_weightOf 24 = .ok (.imul, 1) := by decide +kernel
theorem dX10_weightOf_25 : decode cX10_weightOf 25 = .ok (.iadd, 1) := by decide +kernel
theorem dX10_weightOf_26 : decode cX10_weightOf 26 = .ok (.istore_n 2, 1) := by decide +kernel
theorem dX10_weightOf_27 : decode cX10_weightOf 27 = .ok (.iinc 3 1, 3) := by decide +kernel
theorem dX10_weightOf_30 : decode cX10_weightOf 30 = .ok (.goto (-26), 3) := by decide +kernel
theorem dX10_weightOf_33 : decode cX10_weightOf 33 = .ok (.iload_n 2, 1) := by decide +kernel
theorem dX10_weightOf_34 : decode cX10_weightOf 34 = .ok (.ireturn, 1) := by decide +kernel
set_option maxRecDepth 20000 in
theorem ggX10_isWithin_X10_in : GoodIn wsX10_isWithin wsX10_in := goodIn_r _ [6] (by decide +kernel) (by decide +kernel)
set_option maxRecDepth 20000 in
theorem gX10_isWithin_X10_in : GoodIn wsX10_isWithin (va_wsS RX10 67 yX10_in wsX10_in) := goodIn_app (goodIn_of _ (by decide +kernel)) ggX10_isWithin_X10_in
set_option maxRecDepth 20000 in
theorem ggX10_isWithin_X10_weightOf : GoodIn wsX10_isWithin wsX10_weightOf := goodIn_r _ [10, 2, 11, 12, 13, 14, 15, 16, 17, 18, 19, 20, 21, 22, 23, 24, 25, 26, 27, 28, 29, 30, 31, 32, 33, 34, 35, 36, 37, 38, 39, 40, 41, 42] (by decide +kernel) (by decide +kernel)
set_option maxRecDepth 20000 in
theorem gX10_isWithin_X10_weightOf : GoodIn wsX10_isWithin (wsV RX10 250 RX10 yX10_weightOf wsX10_weightOf) := goodIn_app (goodIn_of _ (by decide +kernel)) ggX10_isWithin_X10_weightOf
theorem dX10_isWithin_0 : decode cX10_isWithin 0 = .ok (.iload_n 1, 1) := by decide +kernel
theorem dX10_isWithin_1 : decode cX10_isWithin 1 = .ok (.i2l, 1) := by decide +kernel
theorem dX10_isWithin_2 : decode cX10_isWithin 2 = .ok (.lconst 0, 1) := by decide +kernel
theorem dX10_isWithin_3 : decode cX10_isWithin 3 = .ok (.ldc2_w 248, 3) := by decide +kernel
theorem dX10_isWithin_6 : decode cX10_isWithin 6 = .ok (.invokestatic 67, 3) := by decide +kernel
theorem dX10_isWithin_9 : decode cX10_isWithin 9 = .ok (.ifCond .eq 22, 3) := by decide +kernel
theorem dX10_isWithin_12 : decode cX10_isWithin 12 = .ok (.aload_n 0, 1) := by decide +kernel
theorem dX10_isWithin_13 : decode cX10_isWithin 13 = .ok (.iload_n 1, 1) := by decide +kernel
theorem dX10_isWithin_14 : decode cX10_isWithin 14 = .ok (.invokevirtual 250, 3) := by decide +kernel
theorem dX10_isWithin_17 : decode cX10_isWithin 17 = .ok (.aload_n 0, 1) := by decide +kernel
theorem dX10_isWithin_18 : decode cX10_isWithin 18 = .ok (.getfield 22, 3) := by decide +kernel
theorem dX10_isWithin_21 : decode cX10_isWithin 21 = .ok (.bipush 18, 2) := by decide +kernel
theorem dX10_isWithin_23 : decode cX10_isWithin 23 = .ok (.iaload, 1) := by decide +kernel
theorem dX10_isWithin_24 : decode cX10_isWithin 24 = .ok (.if_icmp .gt 7, 3) := by decide +kernel
theorem dX10_isWithin_27 : decode cX10_isWithin 27 = .ok (.iconst 1, 1) := by decide +kernel
theorem dX10_isWithin_28 : decode cX10_isWithin 28 = .ok (.goto 4, 3) := by decide +kernel
theorem dX10_isWithin_31 : decode cX10_isWithin 31 = .ok (.iconst 0, 1) := by decide +kernel
theorem dX10_isWithin_32 : decode cX10_isWithin 32 = .ok (.ireturn, 1) := by decide +kernel
set_option maxRecDepth 20000 in
theorem ggX10_lostUp_X10_layLaw : GoodIn wsX10_lostUp wsX10_layLaw := goodIn_r _ [10, 11, 4, 1, 2, 12, 13, 25, 26, 27, 28, 29, 30, 31, 32, 33, 34, 35, 36, 37, 38, 39, 40, 41, 42, 43, 44, 45, 46, 47, 48, 49, 50, 51, 52, 53, 54, 55, 56] (by decide +kernel) (by decide +kernel)
set_option maxRecDepth 20000 in
theorem gX10_lostUp_X10_layLaw : GoodIn wsX10_lostUp (wsV RX10 206 RX10 yX10_layLaw wsX10_layLaw) := goodIn_app (goodIn_of _ (by decide +kernel)) ggX10_lostUp_X10_layLaw
set_option maxRecDepth 20000 in
theorem ggX10_lostUp_X10_weightOf : GoodIn wsX10_lostUp wsX10_weightOf := goodIn_r _ [17, 2, 25, 26, 27, 28, 29, 30, 31, 32, 33, 34, 35, 36, 37, 38, 39, 40, 41, 42, 43, 44, 45, 46, 47, 48, 49, 50, 51, 52, 53, 54, 55, 56] (by decide +kernel) (by decide +kernel)
set_option maxRecDepth 20000 in
theorem gX10_lostUp_X10_weightOf : GoodIn wsX10_lostUp (wsV RX10 250 RX10 yX10_weightOf wsX10_weightOf) := goodIn_app (goodIn_of _ (by decide +kernel)) ggX10_lostUp_X10_weightOf
set_option maxRecDepth 20000 in
theorem ggX10_lostUp_X10_power : GoodIn wsX10_lostUp wsX10_power := goodIn_r _ [20] (by decide +kernel) (by decide +kernel)
set_option maxRecDepth 20000 in
theorem gX10_lostUp_X10_power : GoodIn wsX10_lostUp (va_wsS RX10 195 yX10_power wsX10_power) := goodIn_app (goodIn_of _ (by decide +kernel)) ggX10_lostUp_X10_power
set_option maxRecDepth 20000 in
theorem ggX10_lostUp_X10_whole : GoodIn wsX10_lostUp wsX10_whole := goodIn_r _ [24, 13, 4, 5, 18, 19, 9, 20, 25, 26, 27, 28, 29, 30, 31, 32, 33, 34, 35, 36, 37, 38, 39, 40, 41, 42, 43, 44, 45, 46, 47, 48, 49, 50, 51, 52, 53, 54, 55, 56] (by decide +kernel) (by decide +kernel)
set_option maxRecDepth 20000 in
theorem gX10_lostUp_X10_whole : GoodIn wsX10_lostUp (wsV RX10 213 RX10 yX10_whole wsX10_whole) := goodIn_app (goodIn_of _ (by decide +kernel)) ggX10_lostUp_X10_whole
theorem dX10_lostUp_0 : decode cX10_lostUp 0 = .ok (.aload_n 0, 1) := by decide +kernel
theorem dX10_lostUp_1 : decode cX10_lostUp 1 = .ok (.iload_n 1, 1) := by decide +kernel
theorem dX10_lostUp_2 : decode cX10_lostUp 2 = .ok (.invokevirtual 206, 3) := by decide +kernel
theorem dX10_lostUp_5 : decode cX10_lostUp 5 = .ok (.aload_n 0, 1) := by decide +kernel
theorem dX10_lostUp_6 : decode cX10_lostUp 6 = .ok (.iload_n 2, 1) := by decide +kernel
theorem dX10_lostUp_7 : decode cX10_lostUp 7 = .ok (.invokevirtual 250, 3) := by decide +kernel
theorem dX10_lostUp_10 : decode cX10_lostUp 10 = .ok (.istore_n 3, 1) := by decide +kernel
theorem dX10_lostUp_11 : decode cX10_lostUp 11 = .ok (.lconst 0, 1) := by decide +kernel
theorem dX10_lostUp_12 : decode cX10_lostUp 12 = .ok (.lstore 4, 2) := by decide +kernel
theorem dX10_lostUp_14 : decode cX10_lostUp 14 = .ok (.iconst 0, 1) := by decide +kernel
theorem dX10_lostUp_15 : decode cX10_lostUp 15 = .ok (.istore 6, 2) := by decide +kernel
theorem dX10_lostUp_17 : decode cX10_lostUp 17 = .ok (.iload 6, 2) := by decide +kernel
theorem dX10_lostUp_19 : decode cX10_lostUp 19 = .ok (.iconst 4, 1) := by decide +kernel
theorem dX10_lostUp_20 : decode cX10_lostUp 20 = .ok (.if_icmp .ge 59, 3) := by decide +kernel
theorem dX10_lostUp_23 : decode cX10_lostUp 23 = .ok (.iload_n 2, 1) := by decide +kernel
theorem dX10_lostUp_24 : decode cX10_lostUp 24 = .ok (.iload 6, 2) := by decide +kernel
theorem dX10_lostUp_26 : decode cX10_lostUp 26 = .ok (.ishr, 1) := by decide +kernel
theorem dX10_lostUp_27 : decode cX10_lostUp 27 = .ok (.iconst 1, 1) := by decide +kernel
theorem dX10_lostUp_28 : decode cX10_lostUp 28 = .ok (.iand, 1) := by decide +kernel
theorem dX10_lostUp_29 : decode cX10_lostUp 29 = .ok (.iconst 1, 1) := by decide +kernel
theorem dX10_lostUp_30 : decode cX10_lostUp 30 = .ok (.if_icmp .ne 15, 3) := by decide +kernel
theorem dX10_lostUp_33 : decode cX10_lostUp 33 = .ok (.aload_n 0, 1) := by decide +kernel
theorem dX10_lostUp_34 : decode cX10_lostUp 34 = .ok (.getfield 44, 3) := by decide +kernel
theorem dX10_lostUp_37 : decode cX10_lostUp 37 = .ok (.iload 6, 2) := by decide +kernel
theorem dX10_lostUp_39 : decode cX10_lostUp 39 = .ok (.iaload, 1) := by decide +kernel
theorem dX10_lostUp_40 : decode cX10_lostUp 40 = .ok (.iconst 2, 1) := by decide +kernel
theorem dX10_lostUp_41 : decode cX10_lostUp 41 = .ok (.idiv, 1) := by decide +kernel
theorem dX10_lostUp_42 : decode cX10_lostUp 42 = .ok (.goto 10, 3) := by decide +kernel
theorem dX10_lostUp_45 : decode cX10_lostUp 45 = .ok (.aload_n 0, 1) := by decide +kernel
theorem dX10_lostUp_46 : decode cX10_lostUp 46 = .ok (.getfield 44, 3) := by decide +kernel
theorem dX10_lostUp_49 : decode cX10_lostUp 49 = .ok (.iload 6, 2) := by decide +kernel
theorem dX10_lostUp_51 : decode cX10_lostUp 51 = .ok (.iaload, 1) := by decide +kernel
theorem dX10_lostUp_52 : decode cX10_lostUp 52 = .ok (.istore 7, 2) := by decide +kernel
theorem dX10_lostUp_54 : decode cX10_lostUp 54 = .ok (.lload 4, 2) := by decide +kernel
theorem dX10_lostUp_56 : decode cX10_lostUp 56 = .ok (.aload_n 0, 1) := by decide +kernel
theorem dX10_lostUp_57 : decode cX10_lostUp 57 = .ok (.getfield 22, 3) := by decide +kernel
theorem dX10_lostUp_60 : decode cX10_lostUp 60 = .ok (.iload 6, 2) := by decide +kernel
theorem dX10_lostUp_62 : decode cX10_lostUp 62 = .ok (.iaload, 1) := by decide +kernel
theorem dX10_lostUp_63 : decode cX10_lostUp 63 = .ok (.bipush 10, 2) := by decide +kernel
theorem dX10_lostUp_65 : decode cX10_lostUp 65 = .ok (.iload 7, 2) := by decide +kernel
theorem dX10_lostUp_67 : decode cX10_lostUp 67 = .ok (.isub, 1) := by decide +kernel
theorem dX10_lostUp_68 : decode cX10_lostUp 68 = .ok (.imul, 1) := by decide +kernel
theorem dX10_lostUp_69 : decode cX10_lostUp 69 = .ok (.i2l, 1) := by decide +kernel
theorem dX10_lostUp_70 : decode cX10_lostUp 70 = .ok (.ladd, 1) := by decide +kernel
theorem dX10_lostUp_71 : decode cX10_lostUp 71 = .ok (.lstore 4, 2) := by decide +kernel
theorem dX10_lostUp_73 : decode cX10_lostUp 73 = .ok (.iinc 6 1, 3) := by decide +kernel
theorem dX10_lostUp_76 : decode cX10_lostUp 76 = .ok (.goto (-59), 3) := by decide +kernel
theorem dX10_lostUp_79 : decode cX10_lostUp 79 = .ok (.lconst 0, 1) := by decide +kernel
theorem dX10_lostUp_80 : decode cX10_lostUp 80 = .ok (.lstore 6, 2) := by decide +kernel
theorem dX10_lostUp_82 : decode cX10_lostUp 82 = .ok (.iconst 0, 1) := by decide +kernel
theorem dX10_lostUp_83 : decode cX10_lostUp 83 = .ok (.istore 8, 2) := by decide +kernel
theorem dX10_lostUp_85 : decode cX10_lostUp 85 = .ok (.iload 8, 2) := by decide +kernel
theorem dX10_lostUp_87 : decode cX10_lostUp 87 = .ok (.iconst 4, 1) := by decide +kernel
theorem dX10_lostUp_88 : decode cX10_lostUp 88 = .ok (.if_icmp .ge 92, 3) := by decide +kernel
theorem dX10_lostUp_91 : decode cX10_lostUp 91 = .ok (.aload_n 0, 1) := by decide +kernel
theorem dX10_lostUp_92 : decode cX10_lostUp 92 = .ok (.getfield 22, 3) := by decide +kernel
theorem dX10_lostUp_95 : decode cX10_lostUp 95 = .ok (.bipush 12, 2) := by decide +kernel
theorem dX10_lostUp_97 : decode cX10_lostUp 97 = .ok (.iload 8, 2) := by decide +kernel
theorem dX10_lostUp_99 : decode cX10_lostUp 99 = .ok (.iadd, 1) := by decide +kernel
theorem dX10_lostUp_100 : decode cX10_lostUp 100 = .ok (.iaload, 1) := by decide +kernel
theorem dX10_lostUp_101 : decode cX10_lostUp 101 = .ok (.i2l, 1) := by decide +kernel
theorem dX10_lostUp_102 : decode cX10_lostUp 102 = .ok (.iload 8, 2) := by decide +kernel
theorem dX10_lostUp_104 : decode cX10_lostUp 104 = .ok (.iconst 3, 1) := by decide +kernel
theorem dX10_lostUp_105 : decode cX10_lostUp 105 = .ok (.if_icmp .ne 9, 3) := by decide +kernel
theorem dX10_lostUp_108 : decode cX10_lostUp 108 = .ok (.ldc2_w 115, 3) := by decide +kernel
theorem dX10_lostUp_111 : decode cX10_lostUp 111 = .ok (.goto 9, 3) := by decide +kernel
theorem dX10_lostUp_114 : decode cX10_lostUp 114 = .ok (.ldc2_w 115, 3) := by decide +kernel
theorem dX10_lostUp_117 : decode cX10_lostUp 117 = .ok (.iload_n 3, 1) := by decide +kernel
theorem dX10_lostUp_118 : decode cX10_lostUp 118 = .ok (.i2l, 1) := by decide +kernel
theorem dX10_lostUp_119 : decode cX10_lostUp 119 = .ok (.lsub, 1) := by decide +kernel
theorem dX10_lostUp_120 : decode cX10_lostUp 120 = .ok (.lmul, 1) := by decide +kernel
theorem dX10_lostUp_121 : decode cX10_lostUp 121 = .ok (.iload 8, 2) := by decide +kernel
theorem dX10_lostUp_123 : decode cX10_lostUp 123 = .ok (.ifCond .le 20, 3) := by decide +kernel
theorem dX10_lostUp_126 : decode cX10_lostUp 126 = .ok (.aload_n 0, 1) := by decide +kernel
theorem dX10_lostUp_127 : decode cX10_lostUp 127 = .ok (.getfield 22, 3) := by decide +kernel
theorem dX10_lostUp_130 : decode cX10_lostUp 130 = .ok (.bipush 11, 2) := by decide +kernel
theorem dX10_lostUp_132 : decode cX10_lostUp 132 = .ok (.iload 8, 2) := by decide +kernel
theorem dX10_lostUp_134 : decode cX10_lostUp 134 = .ok (.iadd, 1) := by decide +kernel
theorem dX10_lostUp_135 : decode cX10_lostUp 135 = .ok (.iaload, 1) := by decide +kernel
theorem dX10_lostUp_136 : decode cX10_lostUp 136 = .ok (.i2l, 1) := by decide +kernel
theorem dX10_lostUp_137 : decode cX10_lostUp 137 = .ok (.iload_n 3, 1) := by decide +kernel
theorem dX10_lostUp_138 : decode cX10_lostUp 138 = .ok (.i2l, 1) := by decide +kernel
theorem dX10_lostUp_139 : decode cX10_lostUp 139 = .ok (.lmul, 1) := by decide +kernel
theorem dX10_lostUp_140 : decode cX10_lostUp 140 = .ok (.goto 4, 3) := by decide +kernel
theorem dX10_lostUp_143 : decode cX10_lostUp 143 = .ok (.lconst 0, 1) := by decide +kernel
theorem dX10_lostUp_144 : decode cX10_lostUp 144 = .ok (.ladd, 1) := by decide +kernel
theorem dX10_lostUp_145 : decode cX10_lostUp 145 = .ok (.lstore 9, 2) := by decide +kernel
theorem dX10_lostUp_147 : decode cX10_lostUp 147 = .ok (.lload 6, 2) := by decide +kernel
theorem dX10_lostUp_149 : decode cX10_lostUp 149 = .ok (.lload 9, 2) := by decide +kernel
theorem dX10_lostUp_151 : decode cX10_lostUp 151 = .ok (.lload 4, 2) := by decide +kernel
theorem dX10_lostUp_153 : decode cX10_lostUp 153 = .ok (.iload 8, 2) := by decide +kernel
theorem dX10_lostUp_155 : decode cX10_lostUp 155 = .ok (.invokestatic 195, 3) := by decide +kernel
theorem dX10_lostUp_158 : decode cX10_lostUp 158 = .ok (.lmul, 1) := by decide +kernel
theorem dX10_lostUp_159 : decode cX10_lostUp 159 = .ok (.aload_n 0, 1) := by decide +kernel
theorem dX10_lostUp_160 : decode cX10_lostUp 160 = .ok (.getfield 187, 3) := by decide +kernel
theorem dX10_lostUp_163 : decode cX10_lostUp 163 = .ok (.iconst 3, 1) := by decide +kernel
theorem dX10_lostUp_164 : decode cX10_lostUp 164 = .ok (.iload 8, 2) := by decide +kernel
theorem dX10_lostUp_166 : decode cX10_lostUp 166 = .ok (.isub, 1) := by decide +kernel
theorem dX10_lostUp_167 : decode cX10_lostUp 167 = .ok (.invokestatic 195, 3) := by decide +kernel
theorem dX10_lostUp_170 : decode cX10_lostUp 170 = .ok (.lmul, 1) := by decide +kernel
theorem dX10_lostUp_171 : decode cX10_lostUp 171 = .ok (.ladd, 1) := by decide +kernel
theorem dX10_lostUp_172 : decode cX10_lostUp 172 = .ok (.lstore 6, 2) := by decide +kernel
theorem dX10_lostUp_174 : decode cX10_lostUp 174 = .ok (.iinc 8 1, 3) := by decide +kernel
theorem dX10_lostUp_177 : decode cX10_lostUp 177 = .ok (.goto (-92), 3) := by decide +kernel
theorem dX10_lostUp_180 : decode cX10_lostUp 180 = .ok (.ldc2_w 115, 3) := by decide +kernel
theorem dX10_lostUp_183 : decode cX10_lostUp 183 = .ok (.aload_n 0, 1) := by decide +kernel
theorem dX10_lostUp_184 : decode cX10_lostUp 184 = .ok (.invokevirtual 213, 3) := by decide +kernel
theorem dX10_lostUp_187 : decode cX10_lostUp 187 = .ok (.lmul, 1) := by decide +kernel
theorem dX10_lostUp_188 : decode cX10_lostUp 188 = .ok (.lload 6, 2) := by decide +kernel
theorem dX10_lostUp_190 : decode cX10_lostUp 190 = .ok (.ldc2_w 199, 3) := by decide +kernel
theorem dX10_lostUp_193 : decode cX10_lostUp 193 = .ok (.aload_n 0, 1) := by decide +kernel
theorem dX10_lostUp_194 : decode cX10_lostUp 194 = .ok (.getfield 22, 3) := by decide +kernel
theorem dX10_lostUp_197 : decode cX10_lostUp 197 = .ok (.bipush 16, 2) := by decide +kernel
theorem dX10_lostUp_199 : decode cX10_lostUp 199 = .ok (.iaload, 1) := by decide +kernel
theorem dX10_lostUp_200 : decode cX10_lostUp 200 = .ok (.i2l, 1) := by decide +kernel
theorem dX10_lostUp_201 : decode cX10_lostUp 201 = .ok (.lsub, 1) := by decide +kernel
theorem dX10_lostUp_202 : decode cX10_lostUp 202 = .ok (.lmul, 1) := by decide +kernel
theorem dX10_lostUp_203 : decode cX10_lostUp 203 = .ok (.lsub, 1) := by decide +kernel
theorem dX10_lostUp_204 : decode cX10_lostUp 204 = .ok (.lreturn, 1) := by decide +kernel
set_option maxRecDepth 20000 in
theorem ggX10_lost_X10_isLaw : GoodIn wsX10_lost wsX10_isLaw := goodIn_r _ [6, 7, 8, 9, 5, 10] (by decide +kernel) (by decide +kernel)
set_option maxRecDepth 20000 in
theorem gX10_lost_X10_isLaw : GoodIn wsX10_lost (va_wsS RX10 201 yX10_isLaw wsX10_isLaw) := goodIn_app (goodIn_of _ (by decide +kernel)) ggX10_lost_X10_isLaw
set_option maxRecDepth 20000 in
theorem ggX10_lost_X10_isWithin : GoodIn wsX10_lost wsX10_isWithin := goodIn_r _ [14, 15, 16, 8, 9, 5, 10, 17, 18, 19, 20, 45, 46, 47, 48, 49, 50, 51, 52, 53, 54, 55, 56, 57, 58, 59, 60, 61, 62, 63, 64, 65, 66, 67, 68, 69, 70, 71, 72, 73, 74, 75, 76] (by decide +kernel) (by decide +kernel)
set_option maxRecDepth 20000 in
theorem gX10_lost_X10_isWithin : GoodIn wsX10_lost (wsV RX10 253 RX10 yX10_isWithin wsX10_isWithin) := goodIn_app (goodIn_of _ (by decide +kernel)) ggX10_lost_X10_isWithin
set_option maxRecDepth 20000 in
theorem ggX10_lost_X10_in : GoodIn wsX10_lost wsX10_in := goodIn_r _ [10] (by decide +kernel) (by decide +kernel)
set_option maxRecDepth 20000 in
theorem gX10_lost_X10_in : GoodIn wsX10_lost (va_wsS RX10 67 yX10_in wsX10_in) := goodIn_app (goodIn_of _ (by decide +kernel)) ggX10_lost_X10_in
set_option maxRecDepth 20000 in
theorem ggX10_lost_X10_lostUp : GoodIn wsX10_lost wsX10_lostUp := goodIn_r _ [24, 25, 16, 2, 26, 27, 28, 29, 30, 5, 31, 32, 33, 34, 17, 18, 19, 20, 35, 36, 37, 38, 39, 40, 41, 45, 46, 47, 48, 49, 50, 51, 52, 53, 54, 55, 56, 57, 58, 59, 60, 61, 62, 63, 64, 65, 66, 67, 68, 69, 70, 71, 72, 73, 74, 75, 76] (by decide +kernel) (by decide +kernel)
set_option maxRecDepth 20000 in
theorem gX10_lost_X10_lostUp : GoodIn wsX10_lost (wsV RX10 256 RX10 yX10_lostUp wsX10_lostUp) := goodIn_app (goodIn_of _ (by decide +kernel)) ggX10_lost_X10_lostUp
set_option maxRecDepth 20000 in
theorem ggX10_lost_X10_whole : GoodIn wsX10_lost wsX10_whole := goodIn_r _ [41, 34, 26, 27, 35, 36, 5, 37, 45, 46, 47, 48, 49, 50, 51, 52, 53, 54, 55, 56, 57, 58, 59, 60, 61, 62, 63, 64, 65, 66, 67, 68, 69, 70, 71, 72, 73, 74, 75, 76] (by decide +kernel) (by decide +kernel)
set_option maxRecDepth 20000 in
theorem gX10_lost_X10_whole : GoodIn wsX10_lost (wsV RX10 213 RX10 yX10_whole wsX10_whole) := goodIn_app (goodIn_of _ (by decide +kernel)) ggX10_lost_X10_whole
set_option maxRecDepth 20000 in
theorem ggX10_lost_X10_lowest : GoodIn wsX10_lost wsX10_lowest := goodIn_r _ [44] (by decide +kernel) (by decide +kernel)
set_option maxRecDepth 20000 in
theorem gX10_lost_X10_lowest : GoodIn wsX10_lost (va_wsS RX10 217 yX10_lowest wsX10_lowest) := goodIn_app (goodIn_of _ (by decide +kernel)) ggX10_lost_X10_lowest
theorem dX10_lost_0 : decode cX10_lost 0 = .ok (.iload_n 1, 1) := by decide +kernel
theorem dX10_lost_1 : decode cX10_lost 1 = .ok (.invokestatic 201, 3) := by decide +kernel
theorem dX10_lost_4 : decode cX10_lost 4 = .ok (.ifCond .eq 21, 3) := by decide +kernel
theorem dX10_lost_7 : decode cX10_lost 7 = .ok (.aload_n 0, 1) := by decide +kernel
theorem dX10_lost_8 : decode cX10_lost 8 = .ok (.iload_n 2, 1) := by decide +kernel
theorem dX10_lost_9 : decode cX10_lost 9 = .ok (.invokevirtual 253, 3) := by decide +kernel
theorem dX10_lost_12 : decode cX10_lost 12 = .ok (.ifCond .eq 13, 3) := by decide +kernel
theorem dX10_lost_15 : decode cX10_lost 15 = .ok (.iload_n 3, 1) := by decide +kernel
theorem dX10_lost_16 : decode cX10_lost 16 = .ok (.i2l, 1) := by decide +kernel
theorem dX10_lost_17 : decode cX10_lost 17 = .ok (.lconst 0, 1) := by decide +kernel
theorem dX10_lost_18 : decode cX10_lost 18 = .ok (.lconst 1, 1) := by decide +kernel
theorem dX10_lost_19 : decode cX10_lost 19 = .ok (.invokestatic 67, 3) := by decide +kernel
theorem dX10_lost_22 : decode cX10_lost 22 = .ok (.ifCond .ne 7, 3) := by decide +kernel
theorem dX10_lost_25 : decode cX10_lost 25 = .ok (.ldc2_w 204, 3) := by decide +kernel
theorem dX10_lost_28 : decode cX10_lost 28 = .ok (.lreturn, 1) := by decide +kernel
theorem dX10_lost_29 : decode cX10_lost 29 = .ok (.aload_n 0, 1) := by decide +kernel
theorem dX10_lost_30 : decode cX10_lost 30 = .ok (.iload_n 1, 1) := by decide +kernel
theorem dX10_lost_31 : decode cX10_lost 31 = .ok (.iload_n 2, 1) := by decide +kernel
theorem dX10_lost_32 : decode cX10_lost 32 = .ok (.invokevirtual 256, 3) := by decide +kernel
theorem dX10_lost_35 : decode cX10_lost 35 = .ok (.lstore 4, 2) := by decide +kernel
theorem dX10_lost_37 : decode cX10_lost 37 = .ok (.lload 4, 2) := by decide +kernel
theorem dX10_lost_39 : decode cX10_lost 39 = .ok (.ldc2_w 115, 3) := by decide +kernel
theorem dX10_lost_42 : decode cX10_lost 42 = .ok (.aload_n 0, 1) := by decide +kernel
theorem dX10_lost_43 : decode cX10_lost 43 = .ok (.invokevirtual 213, 3) := by decide +kernel
theorem dX10_lost_46 : decode cX10_lost 46 = .ok (.lmul, 1) := by decide +kernel
theorem dX10_lost_47 : decode cX10_lost 47 = .ok (.iload_n 3, 1) := by decide +kernel
theorem dX10_lost_48 : decode cX10_lost 48 = .ok (.invokestatic 217, 3) := by decide +kernel
theorem dX10_lost_51 : decode cX10_lost 51 = .ok (.lreturn, 1) := by decide +kernel
set_option maxRecDepth 20000 in
theorem ggX10_bestOf_X10_lostUp : GoodIn wsX10_bestOf wsX10_lostUp := goodIn_r _ [5, 6, 7, 8, 9, 10, 11, 12, 13, 4, 14, 15, 16, 17, 18, 19, 20, 21, 22, 23, 24, 25, 26, 27, 28, 37, 38, 39, 40, 41, 42, 43, 44, 45, 46, 47, 48, 49, 50, 51, 52, 53, 54, 55, 56, 57, 58, 59, 60, 61, 62, 63, 64, 65, 66, 67, 68] (by decide +kernel) (by decide +kernel)
set_option maxRecDepth 20000 in
theorem gX10_bestOf_X10_lostUp : GoodIn wsX10_bestOf (wsV RX10 256 RX10 yX10_lostUp wsX10_lostUp) := goodIn_app (goodIn_of _ (by decide +kernel)) ggX10_bestOf_X10_lostUp
set_option maxRecDepth 20000 in
theorem ggX10_bestOf_X10_isWithin : GoodIn wsX10_bestOf wsX10_isWithin := goodIn_r _ [32, 33, 7, 34, 35, 4, 36, 18, 19, 20, 21, 37, 38, 39, 40, 41, 42, 43, 44, 45, 46, 47, 48, 49, 50, 51, 52, 53, 54, 55, 56, 57, 58, 59, 60, 61, 62, 63, 64, 65, 66, 67, 68] (by decide +kernel) (by decide +kernel)
set_option maxRecDepth 20000 in
theorem gX10_bestOf_X10_isWithin : GoodIn wsX10_bestOf (wsV RX10 253 RX10 yX10_isWithin wsX10_isWithin) := goodIn_app (goodIn_of _ (by decide +kernel)) ggX10_bestOf_X10_isWithin
theorem dX10_bestOf_0 : decode cX10_bestOf 0 = .ok (.iconst 0, 1) := by decide +kernel
theorem dX10_bestOf_1 : decode cX10_bestOf 1 = .ok (.istore_n 2, 1) := by decide +kernel
theorem dX10_bestOf_2 : decode cX10_bestOf 2 = .ok (.aload_n 0, 1) := by decide +kernel
theorem dX10_bestOf_3 : decode cX10_bestOf 3 = .ok (.iload_n 1, 1) := by decide +kernel
theorem dX10_bestOf_4 : decode cX10_bestOf 4 = .ok (.iconst 0, 1) := by decide +kernel
theorem dX10_bestOf_5 : decode cX10_bestOf 5 = .ok (.invokevirtual 256, 3) := by decide +kernel
theorem dX10_bestOf_8 : decode cX10_bestOf 8 = .ok (.lstore_n 3, 1) := by decide +kernel
theorem dX10_bestOf_9 : decode cX10_bestOf 9 = .ok (.iconst 1, 1) := by decide +kernel
theorem dX10_bestOf_10 : decode cX10_bestOf 10 = .ok (.istore 5, 2) := by decide +kernel
theorem dX10_bestOf_12 : decode cX10_bestOf 12 = .ok (.iload 5, 2) := by decide +kernel
theorem dX10_bestOf_14 : decode cX10_bestOf 14 = .ok (.bipush 16, 2) := by decide +kernel
theorem dX10_bestOf_16 : decode cX10_bestOf 16 = .ok (.if_icmp .ge 41, 3) := by decide +kernel
theorem dX10_bestOf_19 : decode cX10_bestOf 19 = .ok (.aload_n 0, 1) := by decide +kernel
theorem dX10_bestOf_20 : decode cX10_bestOf 20 = .ok (.iload 5, 2) := by decide +kernel
theorem dX10_bestOf_22 : decode cX10_bestOf 22 = .ok (.invokevirtual 253, 3) := by decide +kernel
theorem dX10_bestOf_25 : decode cX10_bestOf 25 = .ok (.ifCond .eq 26, 3) := by decide +kernel
theorem dX10_bestOf_28 : decode cX10_bestOf 28 = .ok (.aload_n 0, 1) := by decide +kernel
theorem dX10_bestOf_29 : decode cX10_bestOf 29 = .ok (.iload_n 1, 1) := by decide +kernel
theorem dX10_bestOf_30 : decode cX10_bestOf 30 = .ok (.iload 5, 2) := by decide +kernel
theorem dX10_bestOf_32 : decode cX10_bestOf 32 = .ok (.invokevirtual 256, 3) := by decide +kernel
theorem dX10_bestOf_35 : decode cX10_bestOf 35 = .ok (.lload_n 3, 1) := by decide +kernel
theorem dX10_bestOf_36 : decode cX10_bestOf 36 = .ok (.lcmp, 1) := by decide +kernel
theorem dX10_bestOf_37 : decode cX10_bestOf 37 = .ok (.ifCond .ge 14, 3) := by decide +kernel
theorem dX10_bestOf_40 : decode cX10_bestOf 40 = .ok (.aload_n 0, 1) := by decide +kernel
theorem dX10_bestOf_41 : decode cX10_bestOf 41 = .ok (.iload_n 1, 1) := by decide +kernel
theorem dX10_bestOf_42 : decode cX10_bestOf 42 = .ok (.iload 5, 2) := by decide +kernel
theorem dX10_bestOf_44 : decode cX10_bestOf 44 = .ok (.invokevirtual 256, 3) := by decide +kernel
theorem dX10_bestOf_47 : decode cX10_bestOf 47 = .ok (.lstore_n 3, 1) := by decide +kernel
theorem dX10_bestOf_48 : decode cX10_bestOf 48 = .ok (.iload 5, 2) := by decide +kernel
theorem dX10_bestOf_50 : decode cX10_bestOf 50 = .ok (.istore_n 2, 1) := by decide +kernel
theorem dX10_bestOf_51 : decode cX10_bestOf 51 = .ok (.iinc 5 1, 3) := by decide +kernel
theorem dX10_bestOf_54 : decode cX10_bestOf 54 = .ok (.goto (-42), 3) := by decide +kernel
theorem dX10_bestOf_57 : decode cX10_bestOf 57 = .ok (.iload_n 2, 1) := by decide +kernel
theorem dX10_bestOf_58 : decode cX10_bestOf 58 = .ok (.ireturn, 1) := by decide +kernel
set_option maxRecDepth 20000 in
theorem ggX10_best_X10_isLaw : GoodIn wsX10_best wsX10_isLaw := goodIn_r _ [4, 5, 6, 7, 3, 8] (by decide +kernel) (by decide +kernel)
set_option maxRecDepth 20000 in
theorem gX10_best_X10_isLaw : GoodIn wsX10_best (va_wsS RX10 201 yX10_isLaw wsX10_isLaw) := goodIn_app (goodIn_of _ (by decide +kernel)) ggX10_best_X10_isLaw
set_option maxRecDepth 20000 in
theorem ggX10_best_X10_bestOf : GoodIn wsX10_best wsX10_bestOf := goodIn_r _ [12, 13, 14, 15, 3, 16, 17, 18, 19, 20, 21, 22, 23, 24, 25, 26, 27, 28, 29, 30, 31, 32, 33, 34, 35, 36, 37, 38, 39, 40, 41, 42, 43, 44, 6, 7, 8, 45, 46, 47, 48, 49, 50, 51, 52, 53, 54, 55, 56, 57, 58, 59, 60, 61, 62, 63, 64, 65, 66, 67, 68, 69, 70, 71, 72, 73, 74, 75, 76] (by decide +kernel) (by decide +kernel)
set_option maxRecDepth 20000 in
theorem gX10_best_X10_bestOf : GoodIn wsX10_best (wsV RX10 260 RX10 yX10_bestOf wsX10_bestOf) := goodIn_app (goodIn_of _ (by decide +kernel)) ggX10_best_X10_bestOf
theorem dX10_best_0 : decode cX10_best 0 = .ok (.iload_n 1, 1) := by decide +kernel
theorem dX10_best_1 : decode cX10_best 1 = .ok (.invokestatic 201, 3) := by decide +kernel
theorem dX10_best_4 : decode cX10_best 4 = .ok (.ifCond .eq 11, 3) := by decide +kernel
theorem dX10_best_7 : decode cX10_best 7 = .ok (.aload_n 0, 1) := by decide +kernel
theorem dX10_best_8 : decode cX10_best 8 = .ok (.iload_n 1, 1) := by decide +kernel
theorem dX10_best_9 : decode cX10_best 9 = .ok (.invokevirtual 260, 3) := by decide +kernel
theorem dX10_best_12 : decode cX10_best 12 = .ok (.goto 4, 3) := by decide +kernel
theorem dX10_best_15 : decode cX10_best 15 = .ok (.iconst (-1), 1) := by decide +kernel
theorem dX10_best_16 : decode cX10_best 16 = .ok (.ireturn, 1) := by decide +kernel
set_option maxRecDepth 20000 in
theorem ggX10_safest_X10_layGood : GoodIn wsX10_safest wsX10_layGood := goodIn_r _ [6, 7, 8, 9, 10, 11, 12, 5, 13, 14, 15, 16, 17, 18, 19, 20, 21, 22, 23, 24, 25, 26, 27, 28, 29, 30, 31, 32, 33, 34, 35, 36, 37, 38, 39, 40, 41, 42, 43, 44, 45, 46, 47, 48, 49, 50, 51, 52, 53, 75, 76, 77, 78, 79, 80, 81, 82, 83, 84, 85, 86, 87, 88, 89, 90, 91, 92, 93, 94, 95, 96, 97, 98, 99, 100, 101, 102, 103, 104, 105, 106] (by decide +kernel) (by decide +kernel)
set_option maxRecDepth 20000 in
theorem gX10_safest_X10_layGood : GoodIn wsX10_safest (wsV RX10 239 RX10 yX10_layGood wsX10_layGood) := goodIn_app (goodIn_of _ (by decide +kernel)) ggX10_safest_X10_layGood
set_option maxRecDepth 20000 in
theorem ggX10_safest_X10_firstFrom : GoodIn wsX10_safest wsX10_firstFrom := goodIn_r _ [57, 8, 75, 76, 77, 78, 79, 80, 81, 82, 83, 84, 85, 86, 87, 88, 89, 90, 91, 92, 93, 94, 95, 96, 97, 98, 99, 100, 101, 102, 103, 104, 105, 106] (by decide +kernel) (by decide +kernel)
set_option maxRecDepth 20000 in
theorem gX10_safest_X10_firstFrom : GoodIn wsX10_safest (wsV RX10 242 RX10 yX10_firstFrom wsX10_firstFrom) := goodIn_app (goodIn_of _ (by decide +kernel)) ggX10_safest_X10_firstFrom
set_option maxRecDepth 20000 in
theorem ggX10_safest_X10_isWithin : GoodIn wsX10_safest wsX10_isWithin := goodIn_r _ [61, 62, 9, 63, 64, 5, 65, 66, 67, 68, 69, 75, 76, 77, 78, 79, 80, 81, 82, 83, 84, 85, 86, 87, 88, 89, 90, 91, 92, 93, 94, 95, 96, 97, 98, 99, 100, 101, 102, 103, 104, 105, 106] (by decide +kernel) (by decide +kernel)
set_option maxRecDepth 20000 in
theorem gX10_safest_X10_isWithin : GoodIn wsX10_safest (wsV RX10 253 RX10 yX10_isWithin wsX10_isWithin) := goodIn_app (goodIn_of _ (by decide +kernel)) ggX10_safest_X10_isWithin
set_option maxRecDepth 20000 in
theorem ggX10_safest_X10_lostUp : GoodIn wsX10_safest wsX10_lostUp := goodIn_r _ [73, 16, 9, 74, 15, 42, 10, 11, 12, 5, 13, 14, 17, 18, 66, 67, 68, 69, 43, 44, 45, 46, 47, 48, 49, 75, 76, 77, 78, 79, 80, 81, 82, 83, 84, 85, 86, 87, 88, 89, 90, 91, 92, 93, 94, 95, 96, 97, 98, 99, 100, 101, 102, 103, 104, 105, 106] (by decide +kernel) (by decide +kernel)
set_option maxRecDepth 20000 in
theorem gX10_safest_X10_lostUp : GoodIn wsX10_safest (wsV RX10 256 RX10 yX10_lostUp wsX10_lostUp) := goodIn_app (goodIn_of _ (by decide +kernel)) ggX10_safest_X10_lostUp
theorem dX10_safest_0 : decode cX10_safest 0 = .ok (.aload_n 0, 1) := by decide +kernel
theorem dX10_safest_1 : decode cX10_safest 1 = .ok (.invokevirtual 239, 3) := by decide +kernel
theorem dX10_safest_4 : decode cX10_safest 4 = .ok (.aload_n 0, 1) := by decide +kernel
theorem dX10_safest_5 : decode cX10_safest 5 = .ok (.iconst 0, 1) := by decide +kernel
theorem dX10_safest_6 : decode cX10_safest 6 = .ok (.invokevirtual 242, 3) := by decide +kernel
theorem dX10_safest_9 : decode cX10_safest 9 = .ok (.bipush (-4), 2) := by decide +kernel
theorem dX10_safest_11 : decode cX10_safest 11 = .ok (.if_icmp .ne 6, 3) := by decide +kernel
theorem dX10_safest_14 : decode cX10_safest 14 = .ok (.bipush (-4), 2) := by decide +kernel
theorem dX10_safest_16 : decode cX10_safest 16 = .ok (.ireturn, 1) := by decide +kernel
theorem dX10_safest_17 : decode cX10_safest 17 = .ok (.bipush (-4), 2) := by decide +kernel
theorem dX10_safest_19 : decode cX10_safest 19 = .ok (.istore_n 1, 1) := by decide +kernel
theorem dX10_safest_20 : decode cX10_safest 20 = .ok (.lconst 0, 1) := by decide +kernel
theorem dX10_safest_21 : decode cX10_safest 21 = .ok (.lstore_n 2, 1) := by decide +kernel
theorem dX10_safest_22 : decode cX10_safest 22 = .ok (.iconst 0, 1) := by decide +kernel
theorem dX10_safest_23 : decode cX10_safest 23 = .ok (.istore 4, 2) := by decide +kernel
theorem dX10_safest_25 : decode cX10_safest 25 = .ok (.iload 4, 2) := by decide +kernel
theorem dX10_safest_27 : decode cX10_safest 27 = .ok (.bipush 16, 2) := by decide +kernel
theorem dX10_safest_29 : decode cX10_safest 29 = .ok (.if_icmp .ge 96, 3) := by decide +kernel
theorem dX10_safest_32 : decode cX10_safest 32 = .ok (.aload_n 0, 1) := by decide +kernel
theorem dX10_safest_33 : decode cX10_safest 33 = .ok (.iload 4, 2) := by decide +kernel
theorem dX10_safest_35 : decode cX10_safest 35 = .ok (.invokevirtual 253, 3) := by decide +kernel
theorem dX10_safest_38 : decode cX10_safest 38 = .ok (.ifCond .eq 81, 3) := by decide +kernel
theorem dX10_safest_41 : decode cX10_safest 41 = .ok (.ldc2_w 204, 3) := by decide +kernel
theorem dX10_safest_44 : decode cX10_safest 44 = .ok (.lstore 5, 2) := by decide +kernel
theorem dX10_safest_46 : decode cX10_safest 46 = .ok (.aload_n 0, 1) := by decide +kernel
theorem dX10_safest_47 : decode cX10_safest 47 = .ok (.iconst 0, 1) := by decide +kernel
theorem dX10_safest_48 : decode cX10_safest 48 = .ok (.invokevirtual 242, 3) := by decide +kernel
theorem dX10_safest_51 : decode cX10_safest 51 = .ok (.istore 7, 2) := by decide +kernel
theorem dX10_safest_53 : decode cX10_safest 53 = .ok (.iload 7, 2) := by decide +kernel
theorem dX10_safest_55 : decode cX10_safest 55 = .ok (.bipush (-4), 2) := by decide +kernel
theorem dX10_safest_57 : decode cX10_safest 57 = .ok (.if_icmp .eq 43, 3) := by decide +kernel
theorem dX10_safest_60 : decode cX10_safest 60 = .ok (.aload_n 0, 1) := by decide +kernel
theorem dX10_safest_61 : decode cX10_safest 61 = .ok (.iload 7, 2) := by decide +kernel
theorem dX10_safest_63 : decode cX10_safest 63 = .ok (.iload 4, 2) := by decide +kernel
theorem dX10_safest_65 : decode cX10_safest 65 = .ok (.invokevirtual 256, 3) := by decide +kernel
theorem dX10_safest_68 : decode cX10_safest 68 = .ok (.lstore 8, 2) := by decide +kernel
theorem dX10_safest_70 : decode cX10_safest 70 = .ok (.lload 8, 2) := by decide +kernel
theorem dX10_safest_72 : decode cX10_safest 72 = .ok (.lload 5, 2) := by decide +kernel
theorem dX10_safest_74 : decode cX10_safest 74 = .ok (.lcmp, 1) := by decide +kernel
theorem dX10_safest_75 : decode cX10_safest 75 = .ok (.ifCond .le 8, 3) := by decide +kernel
theorem dX10_safest_78 : decode cX10_safest 78 = .ok (.lload 8, 2) := by decide +kernel
theorem dX10_safest_80 : decode cX10_safest 80 = .ok (.goto 5, 3) := by decide +kernel
theorem dX10_safest_83 : decode cX10_safest 83 = .ok (.lload 5, 2) := by decide +kernel
theorem dX10_safest_85 : decode cX10_safest 85 = .ok (.lstore 5, 2) := by decide +kernel
theorem dX10_safest_87 : decode cX10_safest 87 = .ok (.aload_n 0, 1) := by decide +kernel
theorem dX10_safest_88 : decode cX10_safest 88 = .ok (.iload 7, 2) := by decide +kernel
theorem dX10_safest_90 : decode cX10_safest 90 = .ok (.iconst 1, 1) := by decide +kernel
theorem dX10_safest_91 : decode cX10_safest 91 = .ok (.iadd, 1) := by decide +kernel
theorem dX10_safest_92 : decode cX10_safest 92 = .ok (.invokevirtual 242, 3) := by decide +kernel
theorem dX10_safest_95 : decode cX10_safest 95 = .ok (.istore 7, 2) := by decide +kernel
theorem dX10_safest_97 : decode cX10_safest 97 = .ok (.goto (-44), 3) := by decide +kernel
theorem dX10_safest_100 : decode cX10_safest 100 = .ok (.iload_n 1, 1) := by decide +kernel
theorem dX10_safest_101 : decode cX10_safest 101 = .ok (.bipush (-4), 2) := by decide +kernel
theorem dX10_safest_103 : decode cX10_safest 103 = .ok (.if_icmp .eq 10, 3) := by decide +kernel
theorem dX10_safest_106 : decode cX10_safest 106 = .ok (.lload 5, 2) := by decide +kernel
theorem dX10_safest_108 : decode cX10_safest 108 = .ok (.lload_n 2, 1) := by decide +kernel
theorem dX10_safest_109 : decode cX10_safest 109 = .ok (.lcmp, 1) := by decide +kernel
theorem dX10_safest_110 : decode cX10_safest 110 = .ok (.ifCond .ge 9, 3) := by decide +kernel
theorem dX10_safest_113 : decode cX10_safest 113 = .ok (.lload 5, 2) := by decide +kernel
theorem dX10_safest_115 : decode cX10_safest 115 = .ok (.lstore_n 2, 1) := by decide +kernel
theorem dX10_safest_116 : decode cX10_safest 116 = .ok (.iload 4, 2) := by decide +kernel
theorem dX10_safest_118 : decode cX10_safest 118 = .ok (.istore_n 1, 1) := by decide +kernel
theorem dX10_safest_119 : decode cX10_safest 119 = .ok (.iinc 4 1, 3) := by decide +kernel
theorem dX10_safest_122 : decode cX10_safest 122 = .ok (.goto (-97), 3) := by decide +kernel
theorem dX10_safest_125 : decode cX10_safest 125 = .ok (.iload_n 1, 1) := by decide +kernel
theorem dX10_safest_126 : decode cX10_safest 126 = .ok (.ireturn, 1) := by decide +kernel
set_option maxRecDepth 20000 in
theorem ggX10_drawing_X10_isWithin : GoodIn wsX10_drawing wsX10_isWithin := goodIn_r _ [7, 8, 2, 9, 10, 6, 11, 12, 13, 14, 15, 16, 17, 18, 19, 20, 21, 22, 23, 24, 25, 26, 27, 28, 29, 30, 31, 32, 33, 34, 35, 36, 37, 38, 39, 40, 41, 42, 43, 44, 45, 46, 47] (by decide +kernel) (by decide +kernel)
set_option maxRecDepth 20000 in
theorem gX10_drawing_X10_isWithin : GoodIn wsX10_drawing (wsV RX10 253 RX10 yX10_isWithin wsX10_isWithin) := goodIn_app (goodIn_of _ (by decide +kernel)) ggX10_drawing_X10_isWithin
theorem dX10_drawing_0 : decode cX10_drawing 0 = .ok (.iconst 0, 1) := by decide +kernel
theorem dX10_drawing_1 : decode cX10_drawing 1 = .ok (.istore_n 1, 1) := by decide +kernel
theorem dX10_drawing_2 : decode cX10_drawing 2 = .ok (.iconst 0, 1) := by decide +kernel
theorem dX10_drawing_3 : decode cX10_drawing 3 = .ok (.istore_n 2, 1) := by decide +kernel
theorem dX10_drawing_4 : decode cX10_drawing 4 = .ok (.iconst 0, 1) := by decide +kernel
theorem dX10_drawing_5 : decode cX10_drawing 5 = .ok (.istore_n 3, 1) := by decide +kernel
theorem dX10_drawing_6 : decode cX10_drawing 6 = .ok (.iload_n 3, 1) := by decide +kernel
theorem dX10_drawing_7 : decode cX10_drawing 7 = .ok (.iconst 4, 1) := by decide +kernel
theorem dX10_drawing_8 : decode cX10_drawing 8 = .ok (.if_icmp .ge 133, 3) := by decide +kernel
theorem dX10_drawing_11 : decode cX10_drawing 11 = .ok (.bipush (-4), 2) := by decide +kernel
theorem dX10_drawing_13 : decode cX10_drawing 13 = .ok (.istore 4, 2) := by decide +kernel
theorem dX10_drawing_15 : decode cX10_drawing 15 = .ok (.iconst 0, 1) := by decide +kernel
theorem dX10_drawing_16 : decode cX10_drawing 16 = .ok (.istore 5, 2) := by decide +kernel
theorem dX10_drawing_18 : decode cX10_drawing 18 = .ok (.iload 5, 2) := by decide +kernel
theorem dX10_drawing_20 : decode cX10_drawing 20 = .ok (.iconst 4, 1) := by decide +kernel
theorem dX10_drawing_21 : decode cX10_drawing 21 = .ok (.if_icmp .ge 83, 3) := by decide +kernel
theorem dX10_drawing_24 : decode cX10_drawing 24 = .ok (.iload 4, 2) := by decide +kernel
theorem dX10_drawing_26 : decode cX10_drawing 26 = .ok (.bipush (-4), 2) := by decide +kernel
theorem dX10_drawing_28 : decode cX10_drawing 28 = .ok (.if_icmp .eq 40, 3) := by decide +kernel
theorem dX10_drawing_31 : decode cX10_drawing 31 = .ok (.aload_n 0, 1) := by decide +kernel
theorem dX10_drawing_32 : decode cX10_drawing 32 = .ok (.getfield 28, 3) := by decide +kernel
theorem dX10_drawing_35 : decode cX10_drawing 35 = .ok (.iconst 5, 1) := by decide +kernel
theorem dX10_drawing_36 : decode cX10_drawing 36 = .ok (.iload 5, 2) := by decide +kernel
theorem dX10_drawing_38 : decode cX10_drawing 38 = .ok (.iadd, 1) := by decide +kernel
theorem dX10_drawing_39 : decode cX10_drawing 39 = .ok (.iaload, 1) := by decide +kernel
theorem dX10_drawing_40 : decode cX10_drawing 40 = .ok (.aload_n 0, 1) := by decide +kernel
theorem dX10_drawing_41 : decode cX10_drawing 41 = .ok (.getfield 22, 3) := by decide +kernel
theorem dX10_drawing_44 : decode cX10_drawing 44 = .ok (.iload 4, 2) := by decide +kernel
theorem dX10_drawing_46 : decode cX10_drawing 46 = .ok (.iaload, 1) := by decide +kernel
theorem dX10_drawing_47 : decode cX10_drawing 47 = .ok (.imul, 1) := by decide +kernel
theorem dX10_drawing_48 : decode cX10_drawing 48 = .ok (.aload_n 0, 1) := by decide +kernel
theorem dX10_drawing_49 : decode cX10_drawing 49 = .ok (.getfield 28, 3) := by decide +kernel
theorem dX10_drawing_52 : decode cX10_drawing 52 = .ok (.iconst 5, 1) := by decide +kernel
theorem dX10_drawing_53 : decode cX10_drawing 53 = .ok (.iload 4, 2) := by decide +kernel
theorem dX10_drawing_55 : decode cX10_drawing 55 = .ok (.iadd, 1) := by decide +kernel
theorem dX10_drawing_56 : decode cX10_drawing 56 = .ok (.iaload, 1) := by decide +kernel
theorem dX10_drawing_57 : decode cX10_drawing 57 = .ok (.aload_n 0, 1) := by decide +kernel
theorem dX10_drawing_58 : decode cX10_drawing 58 = .ok (.getfield 22, 3) := by decide +kernel
theorem dX10_drawing_61 : decode cX10_drawing 61 = .ok (.iload 5, 2) := by decide +kernel
theorem dX10_drawing_63 : decode cX10_drawing 63 = .ok (.iaload, 1) := by decide +kernel
theorem dX10_drawing_64 : decode cX10_drawing 64 = .ok (.imul, 1) := by decide +kernel
theorem dX10_drawing_65 : decode cX10_drawing 65 = .ok (.if_icmp .le 7, 3) := by decide +kernel
theorem dX10_drawing_68 : decode cX10_drawing 68 = .ok (.iconst 1, 1) := by decide +kernel
theorem dX10_drawing_69 : decode cX10_drawing 69 = .ok (.goto 4, 3) := by decide +kernel
theorem dX10_drawing_72 : decode cX10_drawing 72 = .ok (.iconst 0, 1) := by decide +kernel
theorem dX10_drawing_73 : decode cX10_drawing 73 = .ok (.istore 6, 2) := by decide +kernel
theorem dX10_drawing_75 : decode cX10_drawing 75 = .ok (.iload_n 1, 1) := by decide +kernel
theorem dX10_drawing_76 : decode cX10_drawing 76 = .ok (.iload 5, 2) := by decide +kernel
theorem dX10_drawing_78 : decode cX10_drawing 78 = .ok (.ishr, 1) := by decide +kernel
theorem dX10_drawing_79 : decode cX10_drawing 79 = .ok (.iconst 1, 1) := by decide +kernel
theorem dX10_drawing_80 : decode cX10_drawing 80 = .ok (.iand, 1) := by decide +kernel
theorem dX10_drawing_81 : decode cX10_drawing 81 = .ok (.ifCond .ne 13, 3) := by decide +kernel
theorem dX10_drawing_84 : decode cX10_drawing 84 = .ok (.iload 6, 2) := by decide +kernel
theorem dX10_drawing_86 : decode cX10_drawing 86 = .ok (.ifCond .eq 8, 3) := by decide +kernel
theorem dX10_drawing_89 : decode cX10_drawing 89 = .ok (.iload 5, 2) := by decide +kernel
theorem dX10_drawing_91 : decode cX10_drawing 91 = .ok (.goto 5, 3) := by decide +kernel
theorem dX10_drawing_94 : decode cX10_drawing 94 = .ok (.iload 4, 2) := by decide +kernel
theorem dX10_drawing_96 : decode cX10_drawing 96 = .ok (.istore 4, 2) := by decide +kernel
theorem dX10_drawing_98 : decode cX10_drawing 98 = .ok (.iinc 5 1, 3) := by decide +kernel
theorem dX10_drawing_101 : decode cX10_drawing 101 = .ok (.goto (-83), 3) := by decide +kernel
theorem dX10_drawing_104 : decode cX10_drawing 104 = .ok (.iload_n 1, 1) := by decide +kernel
theorem dX10_drawing_105 : decode cX10_drawing 105 = .ok (.iconst 1, 1) := by decide +kernel
theorem dX10_drawing_106 : decode cX10_drawing 106 = .ok (.iload 4, 2) := by decide +kernel
theorem dX10_drawing_108 : decode cX10_drawing 108 = .ok (.ishl, 1) := by decide +kernel
theorem dX10_drawing_109 : decode cX10_drawing 109 = .ok (.ior, 1) := by decide +kernel
theorem dX10_drawing_110 : decode cX10_drawing 110 = .ok (.istore_n 1, 1) := by decide +kernel
theorem dX10_drawing_111 : decode cX10_drawing 111 = .ok (.aload_n 0, 1) := by decide +kernel
theorem dX10_drawing_112 : decode cX10_drawing 112 = .ok (.iload_n 2, 1) := by decide +kernel
theorem dX10_drawing_113 : decode cX10_drawing 113 = .ok (.iconst 1, 1) := by decide +kernel
theorem dX10_drawing_114 : decode cX10_drawing 114 = .ok (.iload 4, 2) := by decide +kernel
theorem dX10_drawing_116 : decode cX10_drawing 116 = .ok (.ishl, 1) := by decide +kernel
theorem dX10_drawing_117 : decode cX10_drawing 117 = .ok (.ior, 1) := by decide +kernel
theorem dX10_drawing_118 : decode cX10_drawing 118 = .ok (.invokevirtual 253, 3) := by decide +kernel
theorem dX10_drawing_121 : decode cX10_drawing 121 = .ok (.ifCond .eq 12, 3) := by decide +kernel
theorem dX10_drawing_124 : decode cX10_drawing 124 = .ok (.iload_n 2, 1) := by decide +kernel
theorem dX10_drawing_125 : decode cX10_drawing 125 = .ok (.iconst 1, 1) := by decide +kernel
theorem dX10_drawing_126 : decode cX10_drawing 126 = .ok (.iload 4, 2) := by decide +kernel
theorem dX10_drawing_128 : decode cX10_drawing 128 = .ok (.ishl, 1) := by decide +kernel
theorem dX10_drawing_129 : decode cX10_drawing 129 = .ok (.ior, 1) := by decide +kernel
theorem dX10_drawing_130 : decode cX10_drawing 130 = .ok (.goto 4, 3) := by decide +kernel
theorem dX10_drawing_133 : decode cX10_drawing 133 = .ok (.iload_n 2, 1) := by decide +kernel
theorem dX10_drawing_134 : decode cX10_drawing 134 = .ok (.istore_n 2, 1) := by decide +kernel
theorem dX10_drawing_135 : decode cX10_drawing 135 = .ok (.iinc 3 1, 3) := by decide +kernel
theorem dX10_drawing_138 : decode cX10_drawing 138 = .ok (.goto (-132), 3) := by decide +kernel
theorem dX10_drawing_141 : decode cX10_drawing 141 = .ok (.iload_n 2, 1) := by decide +kernel
theorem dX10_drawing_142 : decode cX10_drawing 142 = .ok (.ireturn, 1) := by decide +kernel
set_option maxRecDepth 20000 in
theorem ggX10_wrong_X10_isLaw : GoodIn wsX10_wrong wsX10_isLaw := goodIn_r _ [7, 8, 9, 10, 6, 11] (by decide +kernel) (by decide +kernel)
set_option maxRecDepth 20000 in
theorem gX10_wrong_X10_isLaw : GoodIn wsX10_wrong (va_wsS RX10 201 yX10_isLaw wsX10_isLaw) := goodIn_app (goodIn_of _ (by decide +kernel)) ggX10_wrong_X10_isLaw
set_option maxRecDepth 20000 in
theorem ggX10_wrong_X10_drawing : GoodIn wsX10_wrong wsX10_drawing := goodIn_r _ [15, 16, 17, 18, 19, 20, 6, 21, 22, 9, 10, 11, 23, 24, 25, 26, 50, 51, 52, 53, 54, 55, 56, 57, 58, 59, 60, 61, 62, 63, 64, 65, 66, 67, 68, 69, 70, 71, 72, 73, 74, 75, 76, 77, 78, 79, 80, 81] (by decide +kernel) (by decide +kernel)
set_option maxRecDepth 20000 in
theorem gX10_wrong_X10_drawing : GoodIn wsX10_wrong (wsV RX10 263 RX10 yX10_drawing wsX10_drawing) := goodIn_app (goodIn_of _ (by decide +kernel)) ggX10_wrong_X10_drawing
set_option maxRecDepth 20000 in
theorem ggX10_wrong_X10_lostUp : GoodIn wsX10_wrong wsX10_lostUp := goodIn_r _ [30, 31, 17, 3, 2, 32, 33, 34, 35, 6, 36, 37, 38, 1, 23, 24, 25, 26, 39, 40, 41, 42, 43, 44, 45, 50, 51, 52, 53, 54, 55, 56, 57, 58, 59, 60, 61, 62, 63, 64, 65, 66, 67, 68, 69, 70, 71, 72, 73, 74, 75, 76, 77, 78, 79, 80, 81] (by decide +kernel) (by decide +kernel)
set_option maxRecDepth 20000 in
theorem gX10_wrong_X10_lostUp : GoodIn wsX10_wrong (wsV RX10 256 RX10 yX10_lostUp wsX10_lostUp) := goodIn_app (goodIn_of _ (by decide +kernel)) ggX10_wrong_X10_lostUp
set_option maxRecDepth 20000 in
theorem ggX10_wrong_X10_bestOf : GoodIn wsX10_wrong wsX10_bestOf := goodIn_r _ [49, 27, 28, 29, 6, 30, 31, 17, 3, 2, 32, 33, 34, 35, 36, 37, 38, 1, 23, 24, 25, 26, 39, 40, 41, 42, 43, 44, 45, 18, 19, 20, 21, 22, 9, 10, 11, 50, 51, 52, 53, 54, 55, 56, 57, 58, 59, 60, 61, 62, 63, 64, 65, 66, 67, 68, 69, 70, 71, 72, 73, 74, 75, 76, 77, 78, 79, 80, 81] (by decide +kernel) (by decide +kernel)
set_option maxRecDepth 20000 in
theorem gX10_wrong_X10_bestOf : GoodIn wsX10_wrong (wsV RX10 260 RX10 yX10_bestOf wsX10_bestOf) := goodIn_app (goodIn_of _ (by decide +kernel)) ggX10_wrong_X10_bestOf
set_option maxRecDepth 20000 in
theorem ggX10_wrong_X10_power : GoodIn wsX10_wrong wsX10_power := goodIn_r _ [41] (by decide +kernel) (by decide +kernel)
set_option maxRecDepth 20000 in
theorem gX10_wrong_X10_power : GoodIn wsX10_wrong (va_wsS RX10 195 yX10_power wsX10_power) := goodIn_app (goodIn_of _ (by decide +kernel)) ggX10_wrong_X10_power
theorem dX10_wrong_0 : decode cX10_wrong 0 = .ok (.iload_n 1, 1) := by decide +kernel
theorem dX10_wrong_1 : decode cX10_wrong 1 = .ok (.invokestatic 201, 3) := by decide +kernel
theorem dX10_wrong_4 : decode cX10_wrong 4 = .ok (.ifCond .ne 5, 3) := by decide +kernel
theorem dX10_wrong_7 : decode cX10_wrong 7 = .ok (.iconst (-1), 1) := by decide +kernel
theorem dX10_wrong_8 : decode cX10_wrong 8 = .ok (.ireturn, 1) := by decide +kernel
theorem dX10_wrong_9 : decode cX10_wrong 9 = .ok (.aload_n 0, 1) := by decide +kernel
theorem dX10_wrong_10 : decode cX10_wrong 10 = .ok (.iload_n 1, 1) := by decide +kernel
theorem dX10_wrong_11 : decode cX10_wrong 11 = .ok (.aload_n 0, 1) := by decide +kernel
theorem dX10_wrong_12 : decode cX10_wrong 12 = .ok (.invokevirtual 263, 3) := by decide +kernel
theorem dX10_wrong_15 : decode cX10_wrong 15 = .ok (.invokevirtual 256, 3) := by decide +kernel
theorem dX10_wrong_18 : decode cX10_wrong 18 = .ok (.aload_n 0, 1) := by decide +kernel
theorem dX10_wrong_19 : decode cX10_wrong 19 = .ok (.iload_n 1, 1) := by decide +kernel
theorem dX10_wrong_20 : decode cX10_wrong 20 = .ok (.aload_n 0, 1) := by decide +kernel
theorem dX10_wrong_21 : decode cX10_wrong 21 = .ok (.iload_n 1, 1) := by decide +kernel
theorem dX10_wrong_22 : decode cX10_wrong 22 = .ok (.invokevirtual 260, 3) := by decide +kernel
theorem dX10_wrong_25 : decode cX10_wrong 25 = .ok (.invokevirtual 256, 3) := by decide +kernel
theorem dX10_wrong_28 : decode cX10_wrong 28 = .ok (.lsub, 1) := by decide +kernel
theorem dX10_wrong_29 : decode cX10_wrong 29 = .ok (.lstore_n 2, 1) := by decide +kernel
theorem dX10_wrong_30 : decode cX10_wrong 30 = .ok (.aload_n 0, 1) := by decide +kernel
theorem dX10_wrong_31 : decode cX10_wrong 31 = .ok (.getfield 192, 3) := by decide +kernel
theorem dX10_wrong_34 : decode cX10_wrong 34 = .ok (.aload_n 0, 1) := by decide +kernel
theorem dX10_wrong_35 : decode cX10_wrong 35 = .ok (.getfield 187, 3) := by decide +kernel
theorem dX10_wrong_38 : decode cX10_wrong 38 = .ok (.iconst 3, 1) := by decide +kernel
theorem dX10_wrong_39 : decode cX10_wrong 39 = .ok (.invokestatic 195, 3) := by decide +kernel
theorem dX10_wrong_42 : decode cX10_wrong 42 = .ok (.lmul, 1) := by decide +kernel
theorem dX10_wrong_43 : decode cX10_wrong 43 = .ok (.ldc2_w 115, 3) := by decide +kernel
theorem dX10_wrong_46 : decode cX10_wrong 46 = .ok (.lmul, 1) := by decide +kernel
theorem dX10_wrong_47 : decode cX10_wrong 47 = .ok (.lstore 4, 2) := by decide +kernel
theorem dX10_wrong_49 : decode cX10_wrong 49 = .ok (.lload_n 2, 1) := by decide +kernel
theorem dX10_wrong_50 : decode cX10_wrong 50 = .ok (.lload 4, 2) := by decide +kernel
theorem dX10_wrong_52 : decode cX10_wrong 52 = .ok (.ladd, 1) := by decide +kernel
theorem dX10_wrong_53 : decode cX10_wrong 53 = .ok (.lconst 1, 1) := by decide +kernel
theorem dX10_wrong_54 : decode cX10_wrong 54 = .ok (.lsub, 1) := by decide +kernel
theorem dX10_wrong_55 : decode cX10_wrong 55 = .ok (.lload 4, 2) := by decide +kernel
theorem dX10_wrong_57 : decode cX10_wrong 57 = .ok (.ldiv, 1) := by decide +kernel
theorem dX10_wrong_58 : decode cX10_wrong 58 = .ok (.l2i, 1) := by decide +kernel
theorem dX10_wrong_59 : decode cX10_wrong 59 = .ok (.ireturn, 1) := by decide +kernel
set_option maxRecDepth 20000 in
theorem ggX10_unlike_X10_in : GoodIn wsX10_unlike wsX10_in := goodIn_r _ [5] (by decide +kernel) (by decide +kernel)
set_option maxRecDepth 20000 in
theorem gX10_unlike_X10_in : GoodIn wsX10_unlike (va_wsS RX10 67 yX10_in wsX10_in) := goodIn_app (goodIn_of _ (by decide +kernel)) ggX10_unlike_X10_in
set_option maxRecDepth 20000 in
theorem ggX10_unlike_X10_layGood : GoodIn wsX10_unlike wsX10_layGood := goodIn_r _ [9, 10, 11, 12, 13, 14, 15, 4, 16, 17, 18, 19, 20, 21, 22, 23, 24, 25, 26, 27, 28, 29, 30, 31, 32, 33, 34, 35, 36, 37, 38, 39, 40, 41, 42, 43, 44, 45, 46, 47, 48, 49, 50, 51, 52, 53, 54, 55, 56, 82, 83, 84, 85, 86, 87, 88, 89, 90, 91, 92, 93, 94, 95, 96, 97, 98, 99, 100, 101, 102, 103, 104, 105, 106, 107, 108, 109, 110, 111, 112, 113] (by decide +kernel) (by decide +kernel)
set_option maxRecDepth 20000 in
theorem gX10_unlike_X10_layGood : GoodIn wsX10_unlike (wsV RX10 239 RX10 yX10_layGood wsX10_layGood) := goodIn_app (goodIn_of _ (by decide +kernel)) ggX10_unlike_X10_layGood
set_option maxRecDepth 20000 in
theorem ggX10_unlike_X10_firstFrom : GoodIn wsX10_unlike wsX10_firstFrom := goodIn_r _ [60, 11, 82, 83, 84, 85, 86, 87, 88, 89, 90, 91, 92, 93, 94, 95, 96, 97, 98, 99, 100, 101, 102, 103, 104, 105, 106, 107, 108, 109, 110, 111, 112, 113] (by decide +kernel) (by decide +kernel)
set_option maxRecDepth 20000 in
theorem gX10_unlike_X10_firstFrom : GoodIn wsX10_unlike (wsV RX10 242 RX10 yX10_firstFrom wsX10_firstFrom) := goodIn_app (goodIn_of _ (by decide +kernel)) ggX10_unlike_X10_firstFrom
set_option maxRecDepth 20000 in
theorem ggX10_unlike_X10_bestOf : GoodIn wsX10_unlike wsX10_bestOf := goodIn_r _ [64, 65, 66, 67, 4, 68, 19, 12, 69, 18, 45, 13, 14, 15, 16, 17, 20, 21, 70, 71, 72, 73, 46, 47, 48, 49, 50, 51, 52, 74, 75, 76, 77, 78, 2, 3, 5, 82, 83, 84, 85, 86, 87, 88, 89, 90, 91, 92, 93, 94, 95, 96, 97, 98, 99, 100, 101, 102, 103, 104, 105, 106, 107, 108, 109, 110, 111, 112, 113] (by decide +kernel) (by decide +kernel)
set_option maxRecDepth 20000 in
theorem gX10_unlike_X10_bestOf : GoodIn wsX10_unlike (wsV RX10 260 RX10 yX10_bestOf wsX10_bestOf) := goodIn_app (goodIn_of _ (by decide +kernel)) ggX10_unlike_X10_bestOf
set_option maxRecDepth 20000 in
theorem ggX10_unlike_X10_fallsOf : GoodIn wsX10_unlike wsX10_fallsOf := goodIn_r _ [81] (by decide +kernel) (by decide +kernel)
set_option maxRecDepth 20000 in
theorem gX10_unlike_X10_fallsOf : GoodIn wsX10_unlike (va_wsS RX10 245 yX10_fallsOf wsX10_fallsOf) := goodIn_app (goodIn_of _ (by decide +kernel)) ggX10_unlike_X10_fallsOf
set_option maxRecDepth 20000 in
theorem ggX10_unlike_X10_size : GoodIn wsX10_unlike wsX10_size := goodIn_r _ [35] (by decide +kernel) (by decide +kernel)
set_option maxRecDepth 20000 in
theorem gX10_unlike_X10_size : GoodIn wsX10_unlike (va_wsS RX10 224 yX10_size wsX10_size) := goodIn_app (goodIn_of _ (by decide +kernel)) ggX10_unlike_X10_size
theorem dX10_unlike_0 : decode cX10_unlike 0 = .ok (.iload_n 1, 1) := by decide +kernel
theorem dX10_unlike_1 : decode cX10_unlike 1 = .ok (.i2l, 1) := by decide +kernel
theorem dX10_unlike_2 : decode cX10_unlike 2 = .ok (.lconst 0, 1) := by decide +kernel
theorem dX10_unlike_3 : decode cX10_unlike 3 = .ok (.ldc2_w 136, 3) := by decide +kernel
theorem dX10_unlike_6 : decode cX10_unlike 6 = .ok (.invokestatic 67, 3) := by decide +kernel
theorem dX10_unlike_9 : decode cX10_unlike 9 = .ok (.ifCond .ne 5, 3) := by decide +kernel
theorem dX10_unlike_12 : decode cX10_unlike 12 = .ok (.iconst (-1), 1) := by decide +kernel
theorem dX10_unlike_13 : decode cX10_unlike 13 = .ok (.ireturn, 1) := by decide +kernel
theorem dX10_unlike_14 : decode cX10_unlike 14 = .ok (.aload_n 0, 1) := by decide +kernel
theorem dX10_unlike_15 : decode cX10_unlike 15 = .ok (.invokevirtual 239, 3) := by decide +kernel
theorem dX10_unlike_18 : decode cX10_unlike 18 = .ok (.aload_n 0, 1) := by decide +kernel
theorem dX10_unlike_19 : decode cX10_unlike 19 = .ok (.iconst 0, 1) := by decide +kernel
theorem dX10_unlike_20 : decode cX10_unlike 20 = .ok (.invokevirtual 242, 3) := by decide +kernel
theorem dX10_unlike_23 : decode cX10_unlike 23 = .ok (.istore_n 2, 1) := by decide +kernel
theorem dX10_unlike_24 : decode cX10_unlike 24 = .ok (.iload_n 2, 1) := by decide +kernel
theorem dX10_unlike_25 : decode cX10_unlike 25 = .ok (.bipush (-4), 2) := by decide +kernel
theorem dX10_unlike_27 : decode cX10_unlike 27 = .ok (.if_icmp .ne 6, 3) := by decide +kernel
theorem dX10_unlike_30 : decode cX10_unlike 30 = .ok (.bipush (-4), 2) := by decide +kernel
theorem dX10_unlike_32 : decode cX10_unlike 32 = .ok (.ireturn, 1) := by decide +kernel
theorem dX10_unlike_33 : decode cX10_unlike 33 = .ok (.aload_n 0, 1) := by decide +kernel
theorem dX10_unlike_34 : decode cX10_unlike 34 = .ok (.iload_n 2, 1) := by decide +kernel
theorem dX10_unlike_35 : decode cX10_unlike 35 = .ok (.invokevirtual 260, 3) := by decide +kernel
theorem dX10_unlike_38 : decode cX10_unlike 38 = .ok (.istore_n 3, 1) := by decide +kernel
theorem dX10_unlike_39 : decode cX10_unlike 39 = .ok (.aload_n 0, 1) := by decide +kernel
theorem dX10_unlike_40 : decode cX10_unlike 40 = .ok (.iload_n 2, 1) := by decide +kernel
theorem dX10_unlike_41 : decode cX10_unlike 41 = .ok (.iconst 1, 1) := by decide +kernel
theorem dX10_unlike_42 : decode cX10_unlike 42 = .ok (.iadd, 1) := by decide +kernel
theorem dX10_unlike_43 : decode cX10_unlike 43 = .ok (.invokevirtual 242, 3) := by decide +kernel
theorem dX10_unlike_46 : decode cX10_unlike 46 = .ok (.istore 4, 2) := by decide +kernel
theorem dX10_unlike_48 : decode cX10_unlike 48 = .ok (.iload 4, 2) := by decide +kernel
theorem dX10_unlike_50 : decode cX10_unlike 50 = .ok (.bipush (-4), 2) := by decide +kernel
theorem dX10_unlike_52 : decode cX10_unlike 52 = .ok (.if_icmp .eq 26, 3) := by decide +kernel
theorem dX10_unlike_55 : decode cX10_unlike 55 = .ok (.aload_n 0, 1) := by decide +kernel
theorem dX10_unlike_56 : decode cX10_unlike 56 = .ok (.iload 4, 2) := by decide +kernel
theorem dX10_unlike_58 : decode cX10_unlike 58 = .ok (.invokevirtual 260, 3) := by decide +kernel
theorem dX10_unlike_61 : decode cX10_unlike 61 = .ok (.iload_n 3, 1) := by decide +kernel
theorem dX10_unlike_62 : decode cX10_unlike 62 = .ok (.if_icmp .ne 16, 3) := by decide +kernel
theorem dX10_unlike_65 : decode cX10_unlike 65 = .ok (.aload_n 0, 1) := by decide +kernel
theorem dX10_unlike_66 : decode cX10_unlike 66 = .ok (.iload 4, 2) := by decide +kernel
theorem dX10_unlike_68 : decode cX10_unlike 68 = .ok (.iconst 1, 1) := by decide +kernel
theorem dX10_unlike_69 : decode cX10_unlike 69 = .ok (.iadd, 1) := by decide +kernel
theorem dX10_unlike_70 : decode cX10_unlike 70 = .ok (.invokevirtual 242, 3) := by decide +kernel
theorem dX10_unlike_73 : decode cX10_unlike 73 = .ok (.istore 4, 2) := by decide +kernel
theorem dX10_unlike_75 : decode cX10_unlike 75 = .ok (.goto (-27), 3) := by decide +kernel
theorem dX10_unlike_78 : decode cX10_unlike 78 = .ok (.iload 4, 2) := by decide +kernel
theorem dX10_unlike_80 : decode cX10_unlike 80 = .ok (.bipush (-4), 2) := by decide +kernel
theorem dX10_unlike_82 : decode cX10_unlike 82 = .ok (.if_icmp .ne 6, 3) := by decide +kernel
theorem dX10_unlike_85 : decode cX10_unlike 85 = .ok (.bipush (-4), 2) := by decide +kernel
theorem dX10_unlike_87 : decode cX10_unlike 87 = .ok (.ireturn, 1) := by decide +kernel
theorem dX10_unlike_88 : decode cX10_unlike 88 = .ok (.iconst 0, 1) := by decide +kernel
theorem dX10_unlike_89 : decode cX10_unlike 89 = .ok (.istore 5, 2) := by decide +kernel
theorem dX10_unlike_91 : decode cX10_unlike 91 = .ok (.iconst 1, 1) := by decide +kernel
theorem dX10_unlike_92 : decode cX10_unlike 92 = .ok (.istore 6, 2) := by decide +kernel
theorem dX10_unlike_94 : decode cX10_unlike 94 = .ok (.iload 6, 2) := by decide +kernel
theorem dX10_unlike_96 : decode cX10_unlike 96 = .ok (.iconst 4, 1) := by decide +kernel
theorem dX10_unlike_97 : decode cX10_unlike 97 = .ok (.if_icmp .ge 62, 3) := by decide +kernel
theorem dX10_unlike_100 : decode cX10_unlike 100 = .ok (.iload_n 2, 1) := by decide +kernel
theorem dX10_unlike_101 : decode cX10_unlike 101 = .ok (.iload 6, 2) := by decide +kernel
theorem dX10_unlike_103 : decode cX10_unlike 103 = .ok (.invokestatic 245, 3) := by decide +kernel
theorem dX10_unlike_106 : decode cX10_unlike 106 = .ok (.iload 4, 2) := by decide +kernel
theorem dX10_unlike_108 : decode cX10_unlike 108 = .ok (.iload 6, 2) := by decide +kernel
theorem dX10_unlike_110 : decode cX10_unlike 110 = .ok (.invokestatic 245, 3) := by decide +kernel
theorem dX10_unlike_113 : decode cX10_unlike 113 = .ok (.isub, 1) := by decide +kernel
theorem dX10_unlike_114 : decode cX10_unlike 114 = .ok (.i2l, 1) := by decide +kernel
theorem dX10_unlike_115 : decode cX10_unlike 115 = .ok (.invokestatic 224, 3) := by decide +kernel
theorem dX10_unlike_118 : decode cX10_unlike 118 = .ok (.lstore 7, 2) := by decide +kernel
theorem dX10_unlike_120 : decode cX10_unlike 120 = .ok (.lload 7, 2) := by decide +kernel
theorem dX10_unlike_122 : decode cX10_unlike 122 = .ok (.iload_n 2, 1) := by decide +kernel
theorem dX10_unlike_123 : decode cX10_unlike 123 = .ok (.iload 5, 2) := by decide +kernel
theorem dX10_unlike_125 : decode cX10_unlike 125 = .ok (.invokestatic 245, 3) := by decide +kernel
theorem dX10_unlike_128 : decode cX10_unlike 128 = .ok (.iload 4, 2) := by decide +kernel
theorem dX10_unlike_130 : decode cX10_unlike 130 = .ok (.iload 5, 2) := by decide +kernel
theorem dX10_unlike_132 : decode cX10_unlike 132 = .ok (.invokestatic 245, 3) := by decide +kernel
theorem dX10_unlike_135 : decode cX10_unlike 135 = .ok (.isub, 1) := by decide +kernel
theorem dX10_unlike_136 : decode cX10_unlike 136 = .ok (.i2l, 1) := by decide +kernel
theorem dX10_unlike_137 : decode cX10_unlike 137 = .ok (.invokestatic 224, 3) := by decide +kernel
theorem dX10_unlike_140 : decode cX10_unlike 140 = .ok (.lcmp, 1) := by decide +kernel
theorem dX10_unlike_141 : decode cX10_unlike 141 = .ok (.ifCond .le 8, 3) := by decide +kernel
theorem dX10_unlike_144 : decode cX10_unlike 144 = .ok (.iload 6, 2) := by decide +kernel
theorem dX10_unlike_146 : decode cX10_unlike 146 = .ok (.goto 5, 3) := by decide +kernel
theorem dX10_unlike_149 : decode cX10_unlike 149 = .ok (.iload 5, 2) := by decide +kernel
theorem dX10_unlike_151 : decode cX10_unlike 151 = .ok (.istore 5, 2) := by decide +kernel
theorem dX10_unlike_153 : decode cX10_unlike 153 = .ok (.iinc 6 1, 3) := by decide +kernel
theorem dX10_unlike_156 : decode cX10_unlike 156 = .ok (.goto (-62), 3) := by decide +kernel
theorem dX10_unlike_159 : decode cX10_unlike 159 = .ok (.iload_n 1, 1) := by decide +kernel
theorem dX10_unlike_160 : decode cX10_unlike 160 = .ok (.ifCond .ne 7, 3) := by decide +kernel
theorem dX10_unlike_163 : decode cX10_unlike 163 = .ok (.iload_n 2, 1) := by decide +kernel
theorem dX10_unlike_164 : decode cX10_unlike 164 = .ok (.goto 15, 3) := by decide +kernel
theorem dX10_unlike_167 : decode cX10_unlike 167 = .ok (.iload_n 1, 1) := by decide +kernel
theorem dX10_unlike_168 : decode cX10_unlike 168 = .ok (.iconst 1, 1) := by decide +kernel
theorem dX10_unlike_169 : decode cX10_unlike 169 = .ok (.if_icmp .ne 8, 3) := by decide +kernel
theorem dX10_unlike_172 : decode cX10_unlike 172 = .ok (.iload 4, 2) := by decide +kernel
theorem dX10_unlike_174 : decode cX10_unlike 174 = .ok (.goto 5, 3) := by decide +kernel
theorem dX10_unlike_177 : decode cX10_unlike 177 = .ok (.iload 5, 2) := by decide +kernel
theorem dX10_unlike_179 : decode cX10_unlike 179 = .ok (.ireturn, 1) := by decide +kernel
set_option maxRecDepth 20000 in
theorem ggX10_trial_X10_isPart : GoodIn wsX10_trial wsX10_isPart := goodIn_r _ [8, 9, 10, 11, 7, 12] (by decide +kernel) (by decide +kernel)
set_option maxRecDepth 20000 in
theorem gX10_trial_X10_isPart : GoodIn wsX10_trial (va_wsS RX10 132 yX10_isPart wsX10_isPart) := goodIn_app (goodIn_of _ (by decide +kernel)) ggX10_trial_X10_isPart
set_option maxRecDepth 20000 in
theorem ggX10_trial_X10_in : GoodIn wsX10_trial wsX10_in := goodIn_r _ [12] (by decide +kernel) (by decide +kernel)
set_option maxRecDepth 20000 in
theorem gX10_trial_X10_in : GoodIn wsX10_trial (va_wsS RX10 67 yX10_in wsX10_in) := goodIn_app (goodIn_of _ (by decide +kernel)) ggX10_trial_X10_in
set_option maxRecDepth 20000 in
theorem ggX10_trial_X10_layGood : GoodIn wsX10_trial wsX10_layGood := goodIn_r _ [16, 17, 18, 19, 20, 21, 22, 7, 23, 24, 25, 26, 4, 27, 28, 29, 30, 31, 32, 33, 34, 35, 36, 37, 38, 39, 40, 41, 42, 43, 44, 45, 46, 47, 48, 49, 50, 51, 52, 53, 54, 55, 56, 57, 58, 59, 60, 61, 62, 70, 71, 72, 73, 74, 75, 76, 77, 78, 79, 80, 81, 82, 83, 84, 85, 86, 87, 88, 89, 90, 91, 92, 93, 94, 95, 96, 97, 98, 99, 100, 101] (by decide +kernel) (by decide +kernel)
set_option maxRecDepth 20000 in
theorem gX10_trial_X10_layGood : GoodIn wsX10_trial (wsV RX10 239 RX10 yX10_layGood wsX10_layGood) := goodIn_app (goodIn_of _ (by decide +kernel)) ggX10_trial_X10_layGood
set_option maxRecDepth 20000 in
theorem ggX10_trial_X10_firstFrom : GoodIn wsX10_trial wsX10_firstFrom := goodIn_r _ [66, 18, 70, 71, 72, 73, 74, 75, 76, 77, 78, 79, 80, 81, 82, 83, 84, 85, 86, 87, 88, 89, 90, 91, 92, 93, 94, 95, 96, 97, 98, 99, 100, 101] (by decide +kernel) (by decide +kernel)
set_option maxRecDepth 20000 in
theorem gX10_trial_X10_firstFrom : GoodIn wsX10_trial (wsV RX10 242 RX10 yX10_firstFrom wsX10_firstFrom) := goodIn_app (goodIn_of _ (by decide +kernel)) ggX10_trial_X10_firstFrom
set_option maxRecDepth 20000 in
theorem ggX10_trial_X10_fallsOf : GoodIn wsX10_trial wsX10_fallsOf := goodIn_r _ [69] (by decide +kernel) (by decide +kernel)
set_option maxRecDepth 20000 in
theorem gX10_trial_X10_fallsOf : GoodIn wsX10_trial (va_wsS RX10 245 yX10_fallsOf wsX10_fallsOf) := goodIn_app (goodIn_of _ (by decide +kernel)) ggX10_trial_X10_fallsOf
set_option maxRecDepth 20000 in
theorem ggX10_trial_X10_size : GoodIn wsX10_trial wsX10_size := goodIn_r _ [41] (by decide +kernel) (by decide +kernel)
set_option maxRecDepth 20000 in
theorem gX10_trial_X10_size : GoodIn wsX10_trial (va_wsS RX10 224 yX10_size wsX10_size) := goodIn_app (goodIn_of _ (by decide +kernel)) ggX10_trial_X10_size
theorem dX10_trial_0 : decode cX10_trial 0 = .ok (.iload_n 1, 1) := by decide +kernel
theorem dX10_trial_1 : decode cX10_trial 1 = .ok (.invokestatic 132, 3) := by decide +kernel
theorem dX10_trial_4 : decode cX10_trial 4 = .ok (.ifCond .eq 40, 3) := by decide +kernel
theorem dX10_trial_7 : decode cX10_trial 7 = .ok (.iload_n 2, 1) := by decide +kernel
theorem dX10_trial_8 : decode cX10_trial 8 = .ok (.i2l, 1) := by decide +kernel
theorem dX10_trial_9 : decode cX10_trial 9 = .ok (.lconst 1, 1) := by decide +kernel
theorem dX10_trial_10 : decode cX10_trial 10 = .ok (.ldc2_w 174, 3) := by decide +kernel
theorem dX10_trial_13 : decode cX10_trial 13 = .ok (.invokestatic 67, 3) := by decide +kernel
theorem dX10_trial_16 : decode cX10_trial 16 = .ok (.ifCond .eq 28, 3) := by decide +kernel
theorem dX10_trial_19 : decode cX10_trial 19 = .ok (.iload_n 3, 1) := by decide +kernel
theorem dX10_trial_20 : decode cX10_trial 20 = .ok (.i2l, 1) := by decide +kernel
theorem dX10_trial_21 : decode cX10_trial 21 = .ok (.lconst 0, 1) := by decide +kernel
theorem dX10_trial_22 : decode cX10_trial 22 = .ok (.iload_n 2, 1) := by decide +kernel
theorem dX10_trial_23 : decode cX10_trial 23 = .ok (.i2l, 1) := by decide +kernel
theorem dX10_trial_24 : decode cX10_trial 24 = .ok (.invokestatic 67, 3) := by decide +kernel
theorem dX10_trial_27 : decode cX10_trial 27 = .ok (.ifCond .ne 19, 3) := by decide +kernel
theorem dX10_trial_30 : decode cX10_trial 30 = .ok (.iload_n 3, 1) := by decide +kernel
theorem dX10_trial_31 : decode cX10_trial 31 = .ok (.i2l, 1) := by decide +kernel
theorem dX10_trial_32 : decode cX10_trial 32 = .ok (.ldc2_w 266, 3) := by decide +kernel
theorem dX10_trial_35 : decode cX10_trial 35 = .ok (.ldc2_w 268, 3) := by decide +kernel
theorem dX10_trial_38 : decode cX10_trial 38 = .ok (.invokestatic 67, 3) := by decide +kernel
theorem dX10_trial_41 : decode cX10_trial 41 = .ok (.ifCond .ne 5, 3) := by decide +kernel
theorem dX10_trial_44 : decode cX10_trial 44 = .ok (.iconst (-1), 1) := by decide +kernel
theorem dX10_trial_45 : decode cX10_trial 45 = .ok (.ireturn, 1) := by decide +kernel
theorem dX10_trial_46 : decode cX10_trial 46 = .ok (.aload_n 0, 1) := by decide +kernel
theorem dX10_trial_47 : decode cX10_trial 47 = .ok (.invokevirtual 239, 3) := by decide +kernel
theorem dX10_trial_50 : decode cX10_trial 50 = .ok (.aload_n 0, 1) := by decide +kernel
theorem dX10_trial_51 : decode cX10_trial 51 = .ok (.iconst 0, 1) := by decide +kernel
theorem dX10_trial_52 : decode cX10_trial 52 = .ok (.invokevirtual 242, 3) := by decide +kernel
theorem dX10_trial_55 : decode cX10_trial 55 = .ok (.bipush (-4), 2) := by decide +kernel
theorem dX10_trial_57 : decode cX10_trial 57 = .ok (.if_icmp .ne 6, 3) := by decide +kernel
theorem dX10_trial_60 : decode cX10_trial 60 = .ok (.bipush (-4), 2) := by decide +kernel
theorem dX10_trial_62 : decode cX10_trial 62 = .ok (.ireturn, 1) := by decide +kernel
theorem dX10_trial_63 : decode cX10_trial 63 = .ok (.iconst 0, 1) := by decide +kernel
theorem dX10_trial_64 : decode cX10_trial 64 = .ok (.istore 4, 2) := by decide +kernel
theorem dX10_trial_66 : decode cX10_trial 66 = .ok (.iconst 0, 1) := by decide +kernel
theorem dX10_trial_67 : decode cX10_trial 67 = .ok (.istore 5, 2) := by decide +kernel
theorem dX10_trial_69 : decode cX10_trial 69 = .ok (.iconst 0, 1) := by decide +kernel
theorem dX10_trial_70 : decode cX10_trial 70 = .ok (.istore 6, 2) := by decide +kernel
theorem dX10_trial_72 : decode cX10_trial 72 = .ok (.iconst 0, 1) := by decide +kernel
theorem dX10_trial_73 : decode cX10_trial 73 = .ok (.istore 7, 2) := by decide +kernel
theorem dX10_trial_75 : decode cX10_trial 75 = .ok (.iload 7, 2) := by decide +kernel
theorem dX10_trial_77 : decode cX10_trial 77 = .ok (.iload_n 2, 1) := by decide +kernel
theorem dX10_trial_78 : decode cX10_trial 78 = .ok (.if_icmp .gt 122, 3) := by decide +kernel
theorem dX10_trial_81 : decode cX10_trial 81 = .ok (.iconst 0, 1) := by decide +kernel
theorem dX10_trial_82 : decode cX10_trial 82 = .ok (.istore 8, 2) := by decide +kernel
theorem dX10_trial_84 : decode cX10_trial 84 = .ok (.aload_n 0, 1) := by decide +kernel
theorem dX10_trial_85 : decode cX10_trial 85 = .ok (.iconst 0, 1) := by decide +kernel
theorem dX10_trial_86 : decode cX10_trial 86 = .ok (.invokevirtual 242, 3) := by decide +kernel
theorem dX10_trial_89 : decode cX10_trial 89 = .ok (.istore 9, 2) := by decide +kernel
theorem dX10_trial_91 : decode cX10_trial 91 = .ok (.iload 9, 2) := by decide +kernel
theorem dX10_trial_93 : decode cX10_trial 93 = .ok (.bipush (-4), 2) := by decide +kernel
theorem dX10_trial_95 : decode cX10_trial 95 = .ok (.if_icmp .eq 53, 3) := by decide +kernel
theorem dX10_trial_98 : decode cX10_trial 98 = .ok (.iload 8, 2) := by decide +kernel
theorem dX10_trial_100 : decode cX10_trial 100 = .ok (.ldc2_w 190, 3) := by decide +kernel
theorem dX10_trial_103 : decode cX10_trial 103 = .ok (.iload 7, 2) := by decide +kernel
theorem dX10_trial_105 : decode cX10_trial 105 = .ok (.i2l, 1) := by decide +kernel
theorem dX10_trial_106 : decode cX10_trial 106 = .ok (.lmul, 1) := by decide +kernel
theorem dX10_trial_107 : decode cX10_trial 107 = .ok (.iload_n 2, 1) := by decide +kernel
theorem dX10_trial_108 : decode cX10_trial 108 = .ok (.iload 9, 2) := by decide +kernel
theorem dX10_trial_110 : decode cX10_trial 110 = .ok (.iload_n 1, 1) := by decide +kernel
theorem dX10_trial_111 : decode cX10_trial 111 = .ok (.invokestatic 245, 3) := by decide +kernel
theorem dX10_trial_114 : decode cX10_trial 114 = .ok (.imul, 1) := by decide +kernel
theorem dX10_trial_115 : decode cX10_trial 115 = .ok (.i2l, 1) := by decide +kernel
theorem dX10_trial_116 : decode cX10_trial 116 = .ok (.lsub, 1) := by decide +kernel
theorem dX10_trial_117 : decode cX10_trial 117 = .ok (.invokestatic 224, 3) := by decide +kernel
theorem dX10_trial_120 : decode cX10_trial 120 = .ok (.ldc2_w 190, 3) := by decide +kernel
theorem dX10_trial_123 : decode cX10_trial 123 = .ok (.lcmp, 1) := by decide +kernel
theorem dX10_trial_124 : decode cX10_trial 124 = .ok (.ifCond .gt 7, 3) := by decide +kernel
theorem dX10_trial_127 : decode cX10_trial 127 = .ok (.iconst 1, 1) := by decide +kernel
theorem dX10_trial_128 : decode cX10_trial 128 = .ok (.goto 4, 3) := by decide +kernel
theorem dX10_trial_131 : decode cX10_trial 131 = .ok (.iconst 0, 1) := by decide +kernel
theorem dX10_trial_132 : decode cX10_trial 132 = .ok (.iadd, 1) := by decide +kernel
theorem dX10_trial_133 : decode cX10_trial 133 = .ok (.istore 8, 2) := by decide +kernel
theorem dX10_trial_135 : decode cX10_trial 135 = .ok (.aload_n 0, 1) := by decide +kernel
theorem dX10_trial_136 : decode cX10_trial 136 = .ok (.iload 9, 2) := by decide +kernel
theorem dX10_trial_138 : decode cX10_trial 138 = .ok (.iconst 1, 1) := by decide +kernel
theorem dX10_trial_139 : decode cX10_trial 139 = .ok (.iadd, 1) := by decide +kernel
theorem dX10_trial_140 : decode cX10_trial 140 = .ok (.invokevirtual 242, 3) := by decide +kernel
theorem dX10_trial_143 : decode cX10_trial 143 = .ok (.istore 9, 2) := by decide +kernel
theorem dX10_trial_145 : decode cX10_trial 145 = .ok (.goto (-54), 3) := by decide +kernel
theorem dX10_trial_148 : decode cX10_trial 148 = .ok (.iload 8, 2) := by decide +kernel
theorem dX10_trial_150 : decode cX10_trial 150 = .ok (.iload 4, 2) := by decide +kernel
theorem dX10_trial_152 : decode cX10_trial 152 = .ok (.if_icmp .le 8, 3) := by decide +kernel
theorem dX10_trial_155 : decode cX10_trial 155 = .ok (.iload 8, 2) := by decide +kernel
theorem dX10_trial_157 : decode cX10_trial 157 = .ok (.goto 5, 3) := by decide +kernel
theorem dX10_trial_160 : decode cX10_trial 160 = .ok (.iload 4, 2) := by decide +kernel
theorem dX10_trial_162 : decode cX10_trial 162 = .ok (.istore 4, 2) := by decide +kernel
theorem dX10_trial_164 : decode cX10_trial 164 = .ok (.iload 5, 2) := by decide +kernel
theorem dX10_trial_166 : decode cX10_trial 166 = .ok (.iload 8, 2) := by decide +kernel
theorem dX10_trial_168 : decode cX10_trial 168 = .ok (.ifCond .le 7, 3) := by decide +kernel
theorem dX10_trial_171 : decode cX10_trial 171 = .ok (.iconst 1, 1) := by decide +kernel
theorem dX10_trial_172 : decode cX10_trial 172 = .ok (.goto 4, 3) := by decide +kernel
theorem dX10_trial_175 : decode cX10_trial 175 = .ok (.iconst 0, 1) := by decide +kernel
theorem dX10_trial_176 : decode cX10_trial 176 = .ok (.iadd, 1) := by decide +kernel
theorem dX10_trial_177 : decode cX10_trial 177 = .ok (.istore 5, 2) := by decide +kernel
theorem dX10_trial_179 : decode cX10_trial 179 = .ok (.iload 7, 2) := by decide +kernel
theorem dX10_trial_181 : decode cX10_trial 181 = .ok (.iload_n 3, 1) := by decide +kernel
theorem dX10_trial_182 : decode cX10_trial 182 = .ok (.if_icmp .ne 8, 3) := by decide +kernel
theorem dX10_trial_185 : decode cX10_trial 185 = .ok (.iload 8, 2) := by decide +kernel
theorem dX10_trial_187 : decode cX10_trial 187 = .ok (.goto 5, 3) := by decide +kernel
theorem dX10_trial_190 : decode cX10_trial 190 = .ok (.iload 6, 2) := by decide +kernel
theorem dX10_trial_192 : decode cX10_trial 192 = .ok (.istore 6, 2) := by decide +kernel
theorem dX10_trial_194 : decode cX10_trial 194 = .ok (.iinc 7 1, 3) := by decide +kernel
theorem dX10_trial_197 : decode cX10_trial 197 = .ok (.goto (-122), 3) := by decide +kernel
theorem dX10_trial_200 : decode cX10_trial 200 = .ok (.iload_n 3, 1) := by decide +kernel
theorem dX10_trial_201 : decode cX10_trial 201 = .ok (.bipush 21, 2) := by decide +kernel
theorem dX10_trial_203 : decode cX10_trial 203 = .ok (.if_icmp .ne 8, 3) := by decide +kernel
theorem dX10_trial_206 : decode cX10_trial 206 = .ok (.iload 4, 2) := by decide +kernel
theorem dX10_trial_208 : decode cX10_trial 208 = .ok (.goto 16, 3) := by decide +kernel
theorem dX10_trial_211 : decode cX10_trial 211 = .ok (.iload_n 3, 1) := by decide +kernel
theorem dX10_trial_212 : decode cX10_trial 212 = .ok (.bipush 22, 2) := by decide +kernel
theorem dX10_trial_214 : decode cX10_trial 214 = .ok (.if_icmp .ne 8, 3) := by decide +kernel
theorem dX10_trial_217 : decode cX10_trial 217 = .ok (.iload 5, 2) := by decide +kernel
theorem dX10_trial_219 : decode cX10_trial 219 = .ok (.goto 5, 3) := by decide +kernel
theorem dX10_trial_222 : decode cX10_trial 222 = .ok (.iload 6, 2) := by decide +kernel
theorem dX10_trial_224 : decode cX10_trial 224 = .ok (.ireturn, 1) := by decide +kernel
set_option maxRecDepth 20000 in
theorem ggX10_sheet_X10_in : GoodIn wsX10_sheet wsX10_in := goodIn_r _ [9] (by decide +kernel) (by decide +kernel)
set_option maxRecDepth 20000 in
theorem gX10_sheet_X10_in : GoodIn wsX10_sheet (va_wsS RX10 67 yX10_in wsX10_in) := goodIn_app (goodIn_of _ (by decide +kernel)) ggX10_sheet_X10_in
theorem dX10_sheet_0 : decode cX10_sheet 0 = .ok (.iload_n 1, 1) := by decide +kernel
theorem dX10_sheet_1 : decode cX10_sheet 1 = .ok (.i2l, 1) := by decide +kernel
theorem dX10_sheet_2 : decode cX10_sheet 2 = .ok (.lconst 0, 1) := by decide +kernel
theorem dX10_sheet_3 : decode cX10_sheet 3 = .ok (.ldc2_w 130, 3) := by decide +kernel
theorem dX10_sheet_6 : decode cX10_sheet 6 = .ok (.invokestatic 67, 3) := by decide +kernel
theorem dX10_sheet_9 : decode cX10_sheet 9 = .ok (.ifCond .eq 21, 3) := by decide +kernel
theorem dX10_sheet_12 : decode cX10_sheet 12 = .ok (.iload_n 2, 1) := by decide +kernel
theorem dX10_sheet_13 : decode cX10_sheet 13 = .ok (.i2l, 1) := by decide +kernel
theorem dX10_sheet_14 : decode cX10_sheet 14 = .ok (.lconst 0, 1) := by decide +kernel
theorem dX10_sheet_15 : decode cX10_sheet 15 = .ok (.ldc2_w 136, 3) := by decide +kernel
theorem dX10_sheet_18 : decode cX10_sheet 18 = .ok (.invokestatic 67, 3) := by decide +kernel
theorem dX10_sheet_21 : decode cX10_sheet 21 = .ok (.ifCond .eq 9, 3) := by decide +kernel
theorem dX10_sheet_24 : decode cX10_sheet 24 = .ok (.iload_n 3, 1) := by decide +kernel
theorem dX10_sheet_25 : decode cX10_sheet 25 = .ok (.bipush 48, 2) := by decide +kernel
theorem dX10_sheet_27 : decode cX10_sheet 27 = .ok (.if_icmp .le 5, 3) := by decide +kernel
theorem dX10_sheet_30 : decode cX10_sheet 30 = .ok (.iconst (-1), 1) := by decide +kernel
theorem dX10_sheet_31 : decode cX10_sheet 31 = .ok (.ireturn, 1) := by decide +kernel
theorem dX10_sheet_32 : decode cX10_sheet 32 = .ok (.iload_n 3, 1) := by decide +kernel
theorem dX10_sheet_33 : decode cX10_sheet 33 = .ok (.ifCond .ge 6, 3) := by decide +kernel
theorem dX10_sheet_36 : decode cX10_sheet 36 = .ok (.bipush (-14), 2) := by decide +kernel
theorem dX10_sheet_38 : decode cX10_sheet 38 = .ok (.ireturn, 1) := by decide +kernel
theorem dX10_sheet_39 : decode cX10_sheet 39 = .ok (.aload_n 0, 1) := by decide +kernel
theorem dX10_sheet_40 : decode cX10_sheet 40 = .ok (.getfield 54, 3) := by decide +kernel
theorem dX10_sheet_43 : decode cX10_sheet 43 = .ok (.iload_n 1, 1) := by decide +kernel
theorem dX10_sheet_44 : decode cX10_sheet 44 = .ok (.iload_n 2, 1) := by decide +kernel
theorem dX10_sheet_45 : decode cX10_sheet 45 = .ok (.iastore, 1) := by decide +kernel
theorem dX10_sheet_46 : decode cX10_sheet 46 = .ok (.aload_n 0, 1) := by decide +kernel
theorem dX10_sheet_47 : decode cX10_sheet 47 = .ok (.getfield 57, 3) := by decide +kernel
theorem dX10_sheet_50 : decode cX10_sheet 50 = .ok (.iload_n 1, 1) := by decide +kernel
theorem dX10_sheet_51 : decode cX10_sheet 51 = .ok (.iload_n 3, 1) := by decide +kernel
theorem dX10_sheet_52 : decode cX10_sheet 52 = .ok (.iastore, 1) := by decide +kernel
theorem dX10_sheet_53 : decode cX10_sheet 53 = .ok (.iconst 0, 1) := by decide +kernel
theorem dX10_sheet_54 : decode cX10_sheet 54 = .ok (.istore 4, 2) := by decide +kernel
theorem dX10_sheet_56 : decode cX10_sheet 56 = .ok (.iload 4, 2) := by decide +kernel
theorem dX10_sheet_58 : decode cX10_sheet 58 = .ok (.bipush 48, 2) := by decide +kernel
theorem dX10_sheet_60 : decode cX10_sheet 60 = .ok (.if_icmp .ge 22, 3) := by decide +kernel
theorem dX10_sheet_63 : decode cX10_sheet 63 = .ok (.aload_n 0, 1) := by decide +kernel
theorem dX10_sheet_64 : decode cX10_sheet 64 = .ok (.getfield 60, 3) := by decide +kernel
theorem dX10_sheet_67 : decode cX10_sheet 67 = .ok (.bipush 48, 2) := by decide +kernel
theorem dX10_sheet_69 : decode cX10_sheet 69 = .ok (.iload_n 1, 1) := by decide +kernel
theorem dX10_sheet_70 : decode cX10_sheet 70 = .ok (.imul, 1) := by decide +kernel
theorem dX10_sheet_71 : decode cX10_sheet 71 = .ok (.iload 4, 2) := by decide +kernel
theorem dX10_sheet_73 : decode cX10_sheet 73 = .ok (.iadd, 1) := by decide +kernel
theorem dX10_sheet_74 : decode cX10_sheet 74 = .ok (.iconst 0, 1) := by decide +kernel
theorem dX10_sheet_75 : decode cX10_sheet 75 = .ok (.iastore, 1) := by decide +kernel
theorem dX10_sheet_76 : decode cX10_sheet 76 = .ok (.iinc 4 1, 3) := by decide +kernel
theorem dX10_sheet_79 : decode cX10_sheet 79 = .ok (.goto (-23), 3) := by decide +kernel
theorem dX10_sheet_82 : decode cX10_sheet 82 = .ok (.iconst 1, 1) := by decide +kernel
theorem dX10_sheet_83 : decode cX10_sheet 83 = .ok (.ireturn, 1) := by decide +kernel
set_option maxRecDepth 20000 in
theorem ggX10_lay_X10_in : GoodIn wsX10_lay wsX10_in := goodIn_r _ [8] (by decide +kernel) (by decide +kernel)
set_option maxRecDepth 20000 in
theorem gX10_lay_X10_in : GoodIn wsX10_lay (va_wsS RX10 67 yX10_in wsX10_in) := goodIn_app (goodIn_of _ (by decide +kernel)) ggX10_lay_X10_in
theorem dX10_lay_0 : decode cX10_lay 0 = .ok (.iload_n 1, 1) := by decide +kernel
theorem dX10_lay_1 : decode cX10_lay 1 = .ok (.i2l, 1) := by decide +kernel
theorem dX10_lay_2 : decode cX10_lay 2 = .ok (.lconst 0, 1) := by decide +kernel
theorem dX10_lay_3 : decode cX10_lay 3 = .ok (.ldc2_w 130, 3) := by decide +kernel
theorem dX10_lay_6 : decode cX10_lay 6 = .ok (.invokestatic 67, 3) := by decide +kernel
theorem dX10_lay_9 : decode cX10_lay 9 = .ok (.ifCond .ne 5, 3) := by decide +kernel
theorem dX10_lay_12 : decode cX10_lay 12 = .ok (.iconst (-1), 1) := by decide +kernel
theorem dX10_lay_13 : decode cX10_lay 13 = .ok (.ireturn, 1) := by decide +kernel
theorem dX10_lay_14 : decode cX10_lay 14 = .ok (.aload_n 0, 1) := by decide +kernel
theorem dX10_lay_15 : decode cX10_lay 15 = .ok (.getfield 54, 3) := by decide +kernel
theorem dX10_lay_18 : decode cX10_lay 18 = .ok (.iload_n 1, 1) := by decide +kernel
theorem dX10_lay_19 : decode cX10_lay 19 = .ok (.iaload, 1) := by decide +kernel
theorem dX10_lay_20 : decode cX10_lay 20 = .ok (.bipush (-4), 2) := by decide +kernel
theorem dX10_lay_22 : decode cX10_lay 22 = .ok (.if_icmp .ne 6, 3) := by decide +kernel
theorem dX10_lay_25 : decode cX10_lay 25 = .ok (.bipush (-11), 2) := by decide +kernel
theorem dX10_lay_27 : decode cX10_lay 27 = .ok (.ireturn, 1) := by decide +kernel
theorem dX10_lay_28 : decode cX10_lay 28 = .ok (.iload_n 2, 1) := by decide +kernel
theorem dX10_lay_29 : decode cX10_lay 29 = .ok (.i2l, 1) := by decide +kernel
theorem dX10_lay_30 : decode cX10_lay 30 = .ok (.lconst 0, 1) := by decide +kernel
theorem dX10_lay_31 : decode cX10_lay 31 = .ok (.aload_n 0, 1) := by decide +kernel
theorem dX10_lay_32 : decode cX10_lay 32 = .ok (.getfield 57, 3) := by decide +kernel
theorem dX10_lay_35 : decode cX10_lay 35 = .ok (.iload_n 1, 1) := by decide +kernel
theorem dX10_lay_36 : decode cX10_lay 36 = .ok (.iaload, 1) := by decide +kernel
theorem dX10_lay_37 : decode cX10_lay 37 = .ok (.iconst 1, 1) := by decide +kernel
theorem dX10_lay_38 : decode cX10_lay 38 = .ok (.isub, 1) := by decide +kernel
theorem dX10_lay_39 : decode cX10_lay 39 = .ok (.i2l, 1) := by decide +kernel
theorem dX10_lay_40 : decode cX10_lay 40 = .ok (.invokestatic 67, 3) := by decide +kernel
theorem dX10_lay_43 : decode cX10_lay 43 = .ok (.ifCond .ne 6, 3) := by decide +kernel
theorem dX10_lay_46 : decode cX10_lay 46 = .ok (.bipush (-12), 2) := by decide +kernel
theorem dX10_lay_48 : decode cX10_lay 48 = .ok (.ireturn, 1) := by decide +kernel
theorem dX10_lay_49 : decode cX10_lay 49 = .ok (.aload_n 0, 1) := by decide +kernel
theorem dX10_lay_50 : decode cX10_lay 50 = .ok (.getfield 60, 3) := by decide +kernel
theorem dX10_lay_53 : decode cX10_lay 53 = .ok (.bipush 48, 2) := by decide +kernel
theorem dX10_lay_55 : decode cX10_lay 55 = .ok (.iload_n 1, 1) := by decide +kernel
theorem dX10_lay_56 : decode cX10_lay 56 = .ok (.imul, 1) := by decide +kernel
theorem dX10_lay_57 : decode cX10_lay 57 = .ok (.iload_n 2, 1) := by decide +kernel
theorem dX10_lay_58 : decode cX10_lay 58 = .ok (.iadd, 1) := by decide +kernel
theorem dX10_lay_59 : decode cX10_lay 59 = .ok (.aload_n 0, 1) := by decide +kernel
theorem dX10_lay_60 : decode cX10_lay 60 = .ok (.getfield 54, 3) := by decide +kernel
theorem dX10_lay_63 : decode cX10_lay 63 = .ok (.iload_n 1, 1) := by decide +kernel
theorem dX10_lay_64 : decode cX10_lay 64 = .ok (.iaload, 1) := by decide +kernel
theorem dX10_lay_65 : decode cX10_lay 65 = .ok (.ifCond .ne 13, 3) := by decide +kernel
theorem dX10_lay_68 : decode cX10_lay 68 = .ok (.iload_n 3, 1) := by decide +kernel
theorem dX10_lay_69 : decode cX10_lay 69 = .ok (.bipush 24, 2) := by decide +kernel
theorem dX10_lay_71 : decode cX10_lay 71 = .ok (.ishl, 1) := by decide +kernel
theorem dX10_lay_72 : decode cX10_lay 72 = .ok (.bipush 24, 2) := by decide +kernel
theorem dX10_lay_74 : decode cX10_lay 74 = .ok (.ishr, 1) := by decide +kernel
theorem dX10_lay_75 : decode cX10_lay 75 = .ok (.goto 24, 3) := by decide +kernel
theorem dX10_lay_78 : decode cX10_lay 78 = .ok (.aload_n 0, 1) := by decide +kernel
theorem dX10_lay_79 : decode cX10_lay 79 = .ok (.getfield 54, 3) := by decide +kernel
theorem dX10_lay_82 : decode cX10_lay 82 = .ok (.iload_n 1, 1) := by decide +kernel
theorem dX10_lay_83 : decode cX10_lay 83 = .ok (.iaload, 1) := by decide +kernel
theorem dX10_lay_84 : decode cX10_lay 84 = .ok (.iconst 1, 1) := by decide +kernel
theorem dX10_lay_85 : decode cX10_lay 85 = .ok (.if_icmp .ne 13, 3) := by decide +kernel
theorem dX10_lay_88 : decode cX10_lay 88 = .ok (.iload_n 3, 1) := by decide +kernel
theorem dX10_lay_89 : decode cX10_lay 89 = .ok (.bipush 16, 2) := by decide +kernel
theorem dX10_lay_91 : decode cX10_lay 91 = .ok (.ishl, 1) := by decide +kernel
theorem dX10_lay_92 : decode cX10_lay 92 = .ok (.bipush 16, 2) := by decide +kernel
theorem dX10_lay_94 : decode cX10_lay 94 = .ok (.ishr, 1) := by decide +kernel
theorem dX10_lay_95 : decode cX10_lay 95 = .ok (.goto 4, 3) := by decide +kernel
theorem dX10_lay_98 : decode cX10_lay 98 = .ok (.iload_n 3, 1) := by decide +kernel
theorem dX10_lay_99 : decode cX10_lay 99 = .ok (.iastore, 1) := by decide +kernel
theorem dX10_lay_100 : decode cX10_lay 100 = .ok (.iconst 1, 1) := by decide +kernel
theorem dX10_lay_101 : decode cX10_lay 101 = .ok (.ireturn, 1) := by decide +kernel
set_option maxRecDepth 20000 in
theorem ggX10_homeAt_X10_in : GoodIn wsX10_homeAt wsX10_in := goodIn_r _ [6] (by decide +kernel) (by decide +kernel)
set_option maxRecDepth 20000 in
theorem gX10_homeAt_X10_in : GoodIn wsX10_homeAt (va_wsS RX10 67 yX10_in wsX10_in) := goodIn_app (goodIn_of _ (by decide +kernel)) ggX10_homeAt_X10_in
theorem dX10_homeAt_0 : decode cX10_homeAt 0 = .ok (.iconst 0, 1) := by decide +kernel
theorem dX10_homeAt_1 : decode cX10_homeAt 1 = .ok (.istore_n 2, 1) := by decide +kernel
theorem dX10_homeAt_2 : decode cX10_homeAt 2 = .ok (.iconst 0, 1) := by decide +kernel
theorem dX10_homeAt_3 : decode cX10_homeAt 3 = .ok (.istore_n 3, 1) := by decide +kernel
theorem dX10_homeAt_4 : decode cX10_homeAt 4 = .ok (.iconst 0, 1) := by decide +kernel
theorem dX10_homeAt_5 : decode cX10_homeAt 5 = .ok (.istore 4, 2) := by decide +kernel
theorem dX10_homeAt_7 : decode cX10_homeAt 7 = .ok (.iload 4, 2) := by decide +kernel
theorem dX10_homeAt_9 : decode cX10_homeAt 9 = .ok (.iconst 4, 1) := by decide +kernel
theorem dX10_homeAt_10 : decode cX10_homeAt 10 = .ok (.if_icmp .ge 58, 3) := by decide +kernel
theorem dX10_homeAt_13 : decode cX10_homeAt 13 = .ok (.aload_n 0, 1) := by decide +kernel
theorem dX10_homeAt_14 : decode cX10_homeAt 14 = .ok (.getfield 60, 3) := by decide +kernel
theorem dX10_homeAt_17 : decode cX10_homeAt 17 = .ok (.iload_n 1, 1) := by decide +kernel
theorem dX10_homeAt_18 : decode cX10_homeAt 18 = .ok (.iload 4, 2) := by decide +kernel
theorem dX10_homeAt_20 : decode cX10_homeAt 20 = .ok (.iadd, 1) := by decide +kernel
theorem dX10_homeAt_21 : decode cX10_homeAt 21 = .ok (.iaload, 1) := by decide +kernel
theorem dX10_homeAt_22 : decode cX10_homeAt 22 = .ok (.i2l, 1) := by decide +kernel
theorem dX10_homeAt_23 : decode cX10_homeAt 23 = .ok (.lconst 0, 1) := by decide +kernel
theorem dX10_homeAt_24 : decode cX10_homeAt 24 = .ok (.ldc2_w 130, 3) := by decide +kernel
theorem dX10_homeAt_27 : decode cX10_homeAt 27 = .ok (.invokestatic 67, 3) := by decide +kernel
theorem dX10_homeAt_30 : decode cX10_homeAt 30 = .ok (.ifCond .ne 6, 3) := by decide +kernel
theorem dX10_homeAt_33 : decode cX10_homeAt 33 = .ok (.bipush (-4), 2) := by decide +kernel
theorem dX10_homeAt_35 : decode cX10_homeAt 35 = .ok (.ireturn, 1) := by decide +kernel
theorem dX10_homeAt_36 : decode cX10_homeAt 36 = .ok (.iconst 4, 1) := by decide +kernel
theorem dX10_homeAt_37 : decode cX10_homeAt 37 = .ok (.iload_n 2, 1) := by decide +kernel
theorem dX10_homeAt_38 : decode cX10_homeAt 38 = .ok (.imul, 1) := by decide +kernel
theorem dX10_homeAt_39 : decode cX10_homeAt 39 = .ok (.aload_n 0, 1) := by decide +kernel
theorem dX10_homeAt_40 : decode cX10_homeAt 40 = .ok (.getfield 60, 3) := by decide +kernel
theorem dX10_homeAt_43 : decode cX10_homeAt 43 = .ok (.iload_n 1, 1) := by decide +kernel
theorem dX10_homeAt_44 : decode cX10_homeAt 44 = .ok (.iload 4, 2) := by decide +kernel
theorem dX10_homeAt_46 : decode cX10_homeAt 46 = .ok (.iadd, 1) := by decide +kernel
theorem dX10_homeAt_47 : decode cX10_homeAt 47 = .ok (.iaload, 1) := by decide +kernel
theorem dX10_homeAt_48 : decode cX10_homeAt 48 = .ok (.iadd, 1) := by decide +kernel
theorem dX10_homeAt_49 : decode cX10_homeAt 49 = .ok (.istore_n 2, 1) := by decide +kernel
theorem dX10_homeAt_50 : decode cX10_homeAt 50 = .ok (.iload_n 3, 1) := by decide +kernel
theorem dX10_homeAt_51 : decode cX10_homeAt 51 = .ok (.aload_n 0, 1) := by decide +kernel
theorem dX10_homeAt_52 : decode cX10_homeAt 52 = .ok (.getfield 60, 3) := by decide +kernel
theorem dX10_homeAt_55 : decode cX10_homeAt 55 = .ok (.iload_n 1, 1) := by decide +kernel
theorem dX10_homeAt_56 : decode cX10_homeAt 56 = .ok (.iload 4, 2) := by decide +kernel
theorem dX10_homeAt_58 : decode cX10_homeAt 58 = .ok (.iadd, 1) := by decide +kernel
theorem dX10_homeAt_59 : decode cX10_homeAt 59 = .ok (.iaload, 1) := by decide +kernel
theorem dX10_homeAt_60 : decode cX10_homeAt 60 = .ok (.iadd, 1) := by decide +kernel
theorem dX10_homeAt_61 : decode cX10_homeAt 61 = .ok (.istore_n 3, 1) := by decide +kernel
theorem dX10_homeAt_62 : decode cX10_homeAt 62 = .ok (.iinc 4 1, 3) := by decide +kernel
theorem dX10_homeAt_65 : decode cX10_homeAt 65 = .ok (.goto (-58), 3) := by decide +kernel
theorem dX10_homeAt_68 : decode cX10_homeAt 68 = .ok (.iload_n 3, 1) := by decide +kernel
theorem dX10_homeAt_69 : decode cX10_homeAt 69 = .ok (.iconst 3, 1) := by decide +kernel
theorem dX10_homeAt_70 : decode cX10_homeAt 70 = .ok (.if_icmp .le 8, 3) := by decide +kernel
theorem dX10_homeAt_73 : decode cX10_homeAt 73 = .ok (.bipush (-4), 2) := by decide +kernel
theorem dX10_homeAt_75 : decode cX10_homeAt 75 = .ok (.goto 4, 3) := by decide +kernel
theorem dX10_homeAt_78 : decode cX10_homeAt 78 = .ok (.iload_n 2, 1) := by decide +kernel
theorem dX10_homeAt_79 : decode cX10_homeAt 79 = .ok (.ireturn, 1) := by decide +kernel
set_option maxRecDepth 20000 in
theorem ggX10_read_X10_in : GoodIn wsX10_read wsX10_in := goodIn_r _ [11] (by decide +kernel) (by decide +kernel)
set_option maxRecDepth 20000 in
theorem gX10_read_X10_in : GoodIn wsX10_read (va_wsS RX10 67 yX10_in wsX10_in) := goodIn_app (goodIn_of _ (by decide +kernel)) ggX10_read_X10_in
set_option maxRecDepth 20000 in
theorem ggX10_read_X10_homeAt : GoodIn wsX10_read wsX10_homeAt := goodIn_r _ [15, 16, 1, 8, 9, 10, 11, 34, 35, 36, 37, 38, 39, 40, 41, 42, 43, 44, 45, 46, 47, 48, 49, 50, 51, 52, 53, 54, 55, 56, 57, 58, 59, 60, 61, 62, 63, 64, 65] (by decide +kernel) (by decide +kernel)
set_option maxRecDepth 20000 in
theorem gX10_read_X10_homeAt : GoodIn wsX10_read (wsV RX10 272 RX10 yX10_homeAt wsX10_homeAt) := goodIn_app (goodIn_of _ (by decide +kernel)) ggX10_read_X10_homeAt
set_option maxRecDepth 20000 in
theorem ggX10_read_X10_acts : GoodIn wsX10_read wsX10_acts := goodIn_r _ [20, 21, 22, 6, 23, 34, 35, 36, 37, 38, 39, 40, 41, 42, 43, 44, 45, 46, 47, 48, 49, 50, 51, 52, 53, 54, 55, 56, 57, 58, 59, 60, 61, 62, 63, 64, 65] (by decide +kernel) (by decide +kernel)
set_option maxRecDepth 20000 in
theorem gX10_read_X10_acts : GoodIn wsX10_read (wsV RX10 154 RX10 yX10_acts wsX10_acts) := goodIn_app (goodIn_of _ (by decide +kernel)) ggX10_read_X10_acts
set_option maxRecDepth 20000 in
theorem ggX10_read_X10_home : GoodIn wsX10_read wsX10_home := goodIn_r _ [27, 6, 28, 29, 10, 30, 31, 32, 33, 34, 35, 36, 37, 38, 39, 40, 41, 42, 43, 44, 45, 46, 47, 48, 49, 50, 51, 52, 53, 54, 55, 56, 57, 58, 59, 60, 61, 62, 63, 64, 65] (by decide +kernel) (by decide +kernel)
set_option maxRecDepth 20000 in
theorem gX10_read_X10_home : GoodIn wsX10_read (wsV RX10 157 RX10 yX10_home wsX10_home) := goodIn_app (goodIn_of _ (by decide +kernel)) ggX10_read_X10_home
theorem dX10_read_0 : decode cX10_read 0 = .ok (.iload_n 1, 1) := by decide +kernel
theorem dX10_read_1 : decode cX10_read 1 = .ok (.i2l, 1) := by decide +kernel
theorem dX10_read_2 : decode cX10_read 2 = .ok (.lconst 0, 1) := by decide +kernel
theorem dX10_read_3 : decode cX10_read 3 = .ok (.ldc2_w 130, 3) := by decide +kernel
theorem dX10_read_6 : decode cX10_read 6 = .ok (.invokestatic 67, 3) := by decide +kernel
theorem dX10_read_9 : decode cX10_read 9 = .ok (.ifCond .eq 28, 3) := by decide +kernel
theorem dX10_read_12 : decode cX10_read 12 = .ok (.iload_n 2, 1) := by decide +kernel
theorem dX10_read_13 : decode cX10_read 13 = .ok (.i2l, 1) := by decide +kernel
theorem dX10_read_14 : decode cX10_read 14 = .ok (.lconst 0, 1) := by decide +kernel
theorem dX10_read_15 : decode cX10_read 15 = .ok (.ldc2_w 136, 3) := by decide +kernel
theorem dX10_read_18 : decode cX10_read 18 = .ok (.invokestatic 67, 3) := by decide +kernel
theorem dX10_read_21 : decode cX10_read 21 = .ok (.ifCond .eq 16, 3) := by decide +kernel
theorem dX10_read_24 : decode cX10_read 24 = .ok (.iload 4, 2) := by decide +kernel
theorem dX10_read_26 : decode cX10_read 26 = .ok (.i2l, 1) := by decide +kernel
theorem dX10_read_27 : decode cX10_read 27 = .ok (.lconst 0, 1) := by decide +kernel
theorem dX10_read_28 : decode cX10_read 28 = .ok (.ldc2_w 270, 3) := by decide +kernel
theorem dX10_read_31 : decode cX10_read 31 = .ok (.invokestatic 67, 3) := by decide +kernel
theorem dX10_read_34 : decode cX10_read 34 = .ok (.ifCond .ne 5, 3) := by decide +kernel
theorem dX10_read_37 : decode cX10_read 37 = .ok (.iconst (-1), 1) := by decide +kernel
theorem dX10_read_38 : decode cX10_read 38 = .ok (.ireturn, 1) := by decide +kernel
theorem dX10_read_39 : decode cX10_read 39 = .ok (.iconst 0, 1) := by decide +kernel
theorem dX10_read_40 : decode cX10_read 40 = .ok (.istore 5, 2) := by decide +kernel
theorem dX10_read_42 : decode cX10_read 42 = .ok (.iconst 0, 1) := by decide +kernel
theorem dX10_read_43 : decode cX10_read 43 = .ok (.istore 6, 2) := by decide +kernel
theorem dX10_read_45 : decode cX10_read 45 = .ok (.iconst 0, 1) := by decide +kernel
theorem dX10_read_46 : decode cX10_read 46 = .ok (.istore 7, 2) := by decide +kernel
theorem dX10_read_48 : decode cX10_read 48 = .ok (.iload 7, 2) := by decide +kernel
theorem dX10_read_50 : decode cX10_read 50 = .ok (.iconst 4, 1) := by decide +kernel
theorem dX10_read_51 : decode cX10_read 51 = .ok (.iload 4, 2) := by decide +kernel
theorem dX10_read_53 : decode cX10_read 53 = .ok (.imul, 1) := by decide +kernel
theorem dX10_read_54 : decode cX10_read 54 = .ok (.if_icmp .ge 132, 3) := by decide +kernel
theorem dX10_read_57 : decode cX10_read 57 = .ok (.iload 5, 2) := by decide +kernel
theorem dX10_read_59 : decode cX10_read 59 = .ok (.ifCond .ne 127, 3) := by decide +kernel
theorem dX10_read_62 : decode cX10_read 62 = .ok (.aload_n 0, 1) := by decide +kernel
theorem dX10_read_63 : decode cX10_read 63 = .ok (.getfield 54, 3) := by decide +kernel
theorem dX10_read_66 : decode cX10_read 66 = .ok (.iload_n 1, 1) := by decide +kernel
theorem dX10_read_67 : decode cX10_read 67 = .ok (.iaload, 1) := by decide +kernel
theorem dX10_read_68 : decode cX10_read 68 = .ok (.bipush (-4), 2) := by decide +kernel
theorem dX10_read_70 : decode cX10_read 70 = .ok (.if_icmp .ne 7, 3) := by decide +kernel
theorem dX10_read_73 : decode cX10_read 73 = .ok (.iconst 1, 1) := by decide +kernel
theorem dX10_read_74 : decode cX10_read 74 = .ok (.goto 44, 3) := by decide +kernel
theorem dX10_read_77 : decode cX10_read 77 = .ok (.aload_n 0, 1) := by decide +kernel
theorem dX10_read_78 : decode cX10_read 78 = .ok (.getfield 54, 3) := by decide +kernel
theorem dX10_read_81 : decode cX10_read 81 = .ok (.iload_n 1, 1) := by decide +kernel
theorem dX10_read_82 : decode cX10_read 82 = .ok (.iaload, 1) := by decide +kernel
theorem dX10_read_83 : decode cX10_read 83 = .ok (.iload_n 2, 1) := by decide +kernel
theorem dX10_read_84 : decode cX10_read 84 = .ok (.if_icmp .eq 7, 3) := by decide +kernel
theorem dX10_read_87 : decode cX10_read 87 = .ok (.iconst 3, 1) := by decide +kernel
theorem dX10_read_88 : decode cX10_read 88 = .ok (.goto 30, 3) := by decide +kernel
theorem dX10_read_91 : decode cX10_read 91 = .ok (.iload_n 3, 1) := by decide +kernel
theorem dX10_read_92 : decode cX10_read 92 = .ok (.i2l, 1) := by decide +kernel
theorem dX10_read_93 : decode cX10_read 93 = .ok (.iload 7, 2) := by decide +kernel
theorem dX10_read_95 : decode cX10_read 95 = .ok (.i2l, 1) := by decide +kernel
theorem dX10_read_96 : decode cX10_read 96 = .ok (.ladd, 1) := by decide +kernel
theorem dX10_read_97 : decode cX10_read 97 = .ok (.lconst 0, 1) := by decide +kernel
theorem dX10_read_98 : decode cX10_read 98 = .ok (.aload_n 0, 1) := by decide +kernel
theorem dX10_read_99 : decode cX10_read 99 = .ok (.getfield 57, 3) := by decide +kernel
theorem dX10_read_102 : decode cX10_read 102 = .ok (.iload_n 1, 1) := by decide +kernel
theorem dX10_read_103 : decode cX10_read 103 = .ok (.iaload, 1) := by decide +kernel
theorem dX10_read_104 : decode cX10_read 104 = .ok (.iconst 1, 1) := by decide +kernel
theorem dX10_read_105 : decode cX10_read 105 = .ok (.isub, 1) := by decide +kernel
theorem dX10_read_106 : decode cX10_read 106 = .ok (.i2l, 1) := by decide +kernel
theorem dX10_read_107 : decode cX10_read 107 = .ok (.invokestatic 67, 3) := by decide +kernel
theorem dX10_read_110 : decode cX10_read 110 = .ok (.ifCond .ne 7, 3) := by decide +kernel
theorem dX10_read_113 : decode cX10_read 113 = .ok (.iconst 2, 1) := by decide +kernel
theorem dX10_read_114 : decode cX10_read 114 = .ok (.goto 4, 3) := by decide +kernel
theorem dX10_read_117 : decode cX10_read 117 = .ok (.iconst 0, 1) := by decide +kernel
theorem dX10_read_118 : decode cX10_read 118 = .ok (.istore 5, 2) := by decide +kernel
theorem dX10_read_120 : decode cX10_read 120 = .ok (.iload 5, 2) := by decide +kernel
theorem dX10_read_122 : decode cX10_read 122 = .ok (.ifCond .ne 58, 3) := by decide +kernel
theorem dX10_read_125 : decode cX10_read 125 = .ok (.iload 7, 2) := by decide +kernel
theorem dX10_read_127 : decode cX10_read 127 = .ok (.iconst 4, 1) := by decide +kernel
theorem dX10_read_128 : decode cX10_read 128 = .ok (.irem, 1) := by decide +kernel
theorem dX10_read_129 : decode cX10_read 129 = .ok (.iconst 3, 1) := by decide +kernel
theorem dX10_read_130 : decode cX10_read 130 = .ok (.if_icmp .ne 50, 3) := by decide +kernel
theorem dX10_read_133 : decode cX10_read 133 = .ok (.aload_n 0, 1) := by decide +kernel
theorem dX10_read_134 : decode cX10_read 134 = .ok (.bipush 48, 2) := by decide +kernel
theorem dX10_read_136 : decode cX10_read 136 = .ok (.iload_n 1, 1) := by decide +kernel
theorem dX10_read_137 : decode cX10_read 137 = .ok (.imul, 1) := by decide +kernel
theorem dX10_read_138 : decode cX10_read 138 = .ok (.iload_n 3, 1) := by decide +kernel
theorem dX10_read_139 : decode cX10_read 139 = .ok (.iadd, 1) := by decide +kernel
theorem dX10_read_140 : decode cX10_read 140 = .ok (.iload 7, 2) := by decide +kernel
theorem dX10_read_142 : decode cX10_read 142 = .ok (.iadd, 1) := by decide +kernel
theorem dX10_read_143 : decode cX10_read 143 = .ok (.iconst 3, 1) := by decide +kernel
theorem dX10_read_144 : decode cX10_read 144 = .ok (.isub, 1) := by decide +kernel
theorem dX10_read_145 : decode cX10_read 145 = .ok (.invokevirtual 272, 3) := by decide +kernel
theorem dX10_read_148 : decode cX10_read 148 = .ok (.bipush (-4), 2) := by decide +kernel
theorem dX10_read_150 : decode cX10_read 150 = .ok (.if_icmp .ne 9, 3) := by decide +kernel
theorem dX10_read_153 : decode cX10_read 153 = .ok (.bipush (-20), 2) := by decide +kernel
theorem dX10_read_155 : decode cX10_read 155 = .ok (.iload 6, 2) := by decide +kernel
theorem dX10_read_157 : decode cX10_read 157 = .ok (.isub, 1) := by decide +kernel
theorem dX10_read_158 : decode cX10_read 158 = .ok (.ireturn, 1) := by decide +kernel
theorem dX10_read_159 : decode cX10_read 159 = .ok (.iinc 6 1, 3) := by decide +kernel
theorem dX10_read_162 : decode cX10_read 162 = .ok (.aload_n 0, 1) := by decide +kernel
theorem dX10_read_163 : decode cX10_read 163 = .ok (.getfield 28, 3) := by decide +kernel
theorem dX10_read_166 : decode cX10_read 166 = .ok (.iconst 0, 1) := by decide +kernel
theorem dX10_read_167 : decode cX10_read 167 = .ok (.iaload, 1) := by decide +kernel
theorem dX10_read_168 : decode cX10_read 168 = .ok (.iload 6, 2) := by decide +kernel
theorem dX10_read_170 : decode cX10_read 170 = .ok (.iadd, 1) := by decide +kernel
theorem dX10_read_171 : decode cX10_read 171 = .ok (.sipush 999, 3) := by decide +kernel
theorem dX10_read_174 : decode cX10_read 174 = .ok (.if_icmp .le 6, 3) := by decide +kernel
theorem dX10_read_177 : decode cX10_read 177 = .ok (.bipush (-3), 2) := by decide +kernel
theorem dX10_read_179 : decode cX10_read 179 = .ok (.ireturn, 1) := by decide +kernel
theorem dX10_read_180 : decode cX10_read 180 = .ok (.iinc 7 1, 3) := by decide +kernel
theorem dX10_read_183 : decode cX10_read 183 = .ok (.goto (-135), 3) := by decide +kernel
theorem dX10_read_186 : decode cX10_read 186 = .ok (.aload_n 0, 1) := by decide +kernel
theorem dX10_read_187 : decode cX10_read 187 = .ok (.invokevirtual 154, 3) := by decide +kernel
theorem dX10_read_190 : decode cX10_read 190 = .ok (.iconst 0, 1) := by decide +kernel
theorem dX10_read_191 : decode cX10_read 191 = .ok (.istore 7, 2) := by decide +kernel
theorem dX10_read_193 : decode cX10_read 193 = .ok (.iload 7, 2) := by decide +kernel
theorem dX10_read_195 : decode cX10_read 195 = .ok (.iload 6, 2) := by decide +kernel
theorem dX10_read_197 : decode cX10_read 197 = .ok (.if_icmp .ge 39, 3) := by decide +kernel
theorem dX10_read_200 : decode cX10_read 200 = .ok (.aload_n 0, 1) := by decide +kernel
theorem dX10_read_201 : decode cX10_read 201 = .ok (.getfield 28, 3) := by decide +kernel
theorem dX10_read_204 : decode cX10_read 204 = .ok (.iconst 0, 1) := by decide +kernel
theorem dX10_read_205 : decode cX10_read 205 = .ok (.dup2, 1) := by decide +kernel
theorem dX10_read_206 : decode cX10_read 206 = .ok (.iaload, 1) := by decide +kernel
theorem dX10_read_207 : decode cX10_read 207 = .ok (.iconst 1, 1) := by decide +kernel
theorem dX10_read_208 : decode cX10_read 208 = .ok (.iadd, 1) := by decide +kernel
theorem dX10_read_209 : decode cX10_read 209 = .ok (.iastore, 1) := by decide +kernel
theorem dX10_read_210 : decode cX10_read 210 = .ok (.aload_n 0, 1) := by decide +kernel
theorem dX10_read_211 : decode cX10_read 211 = .ok (.iconst 1, 1) := by decide +kernel
theorem dX10_read_212 : decode cX10_read 212 = .ok (.aload_n 0, 1) := by decide +kernel
theorem dX10_read_213 : decode cX10_read 213 = .ok (.bipush 48, 2) := by decide +kernel
theorem dX10_read_215 : decode cX10_read 215 = .ok (.iload_n 1, 1) := by decide +kernel
theorem dX10_read_216 : decode cX10_read 216 = .ok (.imul, 1) := by decide +kernel
theorem dX10_read_217 : decode cX10_read 217 = .ok (.iload_n 3, 1) := by decide +kernel
theorem dX10_read_218 : decode cX10_read 218 = .ok (.iadd, 1) := by decide +kernel
theorem dX10_read_219 : decode cX10_read 219 = .ok (.iconst 4, 1) := by decide +kernel
theorem dX10_read_220 : decode cX10_read 220 = .ok (.iload 7, 2) := by decide +kernel
theorem dX10_read_222 : decode cX10_read 222 = .ok (.imul, 1) := by decide +kernel
theorem dX10_read_223 : decode cX10_read 223 = .ok (.iadd, 1) := by decide +kernel
theorem dX10_read_224 : decode cX10_read 224 = .ok (.invokevirtual 272, 3) := by decide +kernel
theorem dX10_read_227 : decode cX10_read 227 = .ok (.invokevirtual 157, 3) := by decide +kernel
theorem dX10_read_230 : decode cX10_read 230 = .ok (.iinc 7 1, 3) := by decide +kernel
theorem dX10_read_233 : decode cX10_read 233 = .ok (.goto (-40), 3) := by decide +kernel
theorem dX10_read_236 : decode cX10_read 236 = .ok (.aload_n 0, 1) := by decide +kernel
theorem dX10_read_237 : decode cX10_read 237 = .ok (.iload 5, 2) := by decide +kernel
theorem dX10_read_239 : decode cX10_read 239 = .ok (.putfield 275, 3) := by decide +kernel
theorem dX10_read_242 : decode cX10_read 242 = .ok (.iload 6, 2) := by decide +kernel
theorem dX10_read_244 : decode cX10_read 244 = .ok (.ireturn, 1) := by decide +kernel
theorem dX10_torn_0 : decode cX10_torn 0 = .ok (.aload_n 0, 1) := by decide +kernel
theorem dX10_torn_1 : decode cX10_torn 1 = .ok (.getfield 275, 3) := by decide +kernel
theorem dX10_torn_4 : decode cX10_torn 4 = .ok (.ireturn, 1) := by decide +kernel
set_option maxRecDepth 20000 in
theorem ggX10_count_X10_homes : GoodIn wsX10_count wsX10_homes := goodIn_r _ [13, 3, 14, 15, 16, 17, 18, 19, 20, 21, 22, 23, 24, 25, 26, 27, 28, 29, 30, 31, 32, 33, 34, 35, 36, 37, 38, 39, 40, 41, 42, 43, 44, 45] (by decide +kernel) (by decide +kernel)
set_option maxRecDepth 20000 in
theorem gX10_count_X10_homes : GoodIn wsX10_count (wsV RX10 178 RX10 yX10_homes wsX10_homes) := goodIn_app (goodIn_of _ (by decide +kernel)) ggX10_count_X10_homes
theorem dX10_count_0 : decode cX10_count 0 = .ok (.iconst 0, 1) := by decide +kernel
theorem dX10_count_1 : decode cX10_count 1 = .ok (.istore_n 2, 1) := by decide +kernel
theorem dX10_count_2 : decode cX10_count 2 = .ok (.iconst 0, 1) := by decide +kernel
theorem dX10_count_3 : decode cX10_count 3 = .ok (.istore_n 3, 1) := by decide +kernel
theorem dX10_count_4 : decode cX10_count 4 = .ok (.iconst 0, 1) := by decide +kernel
theorem dX10_count_5 : decode cX10_count 5 = .ok (.istore 4, 2) := by decide +kernel
theorem dX10_count_7 : decode cX10_count 7 = .ok (.iload 4, 2) := by decide +kernel
theorem dX10_count_9 : decode cX10_count 9 = .ok (.iconst 4, 1) := by decide +kernel
theorem dX10_count_10 : decode cX10_count 10 = .ok (.if_icmp .ge 45, 3) := by decide +kernel
theorem dX10_count_13 : decode cX10_count 13 = .ok (.iload_n 2, 1) := by decide +kernel
theorem dX10_count_14 : decode cX10_count 14 = .ok (.aload_n 0, 1) := by decide +kernel
theorem dX10_count_15 : decode cX10_count 15 = .ok (.getfield 34, 3) := by decide +kernel
theorem dX10_count_18 : decode cX10_count 18 = .ok (.iload 4, 2) := by decide +kernel
theorem dX10_count_20 : decode cX10_count 20 = .ok (.baload, 1) := by decide +kernel
theorem dX10_count_21 : decode cX10_count 21 = .ok (.ifCond .eq 7, 3) := by decide +kernel
theorem dX10_count_24 : decode cX10_count 24 = .ok (.iconst 1, 1) := by decide +kernel
theorem dX10_count_25 : decode cX10_count 25 = .ok (.goto 4, 3) := by decide +kernel
theorem dX10_count_28 : decode cX10_count 28 = .ok (.iconst 0, 1) := by decide +kernel
theorem dX10_count_29 : decode cX10_count 29 = .ok (.iadd, 1) := by decide +kernel
theorem dX10_count_30 : decode cX10_count 30 = .ok (.istore_n 2, 1) := by decide +kernel
theorem dX10_count_31 : decode cX10_count 31 = .ok (.iload_n 3, 1) := by decide +kernel
theorem dX10_count_32 : decode cX10_count 32 = .ok (.aload_n 0, 1) := by decide +kernel
theorem dX10_count_33 : decode cX10_count 33 = .ok (.getfield 38, 3) := by decide +kernel
theorem dX10_count_36 : decode cX10_count 36 = .ok (.iload 4, 2) := by decide +kernel
theorem dX10_count_38 : decode cX10_count 38 = .ok (.iaload, 1) := by decide +kernel
theorem dX10_count_39 : decode cX10_count 39 = .ok (.ifCond .le 7, 3) := by decide +kernel
theorem dX10_count_42 : decode cX10_count 42 = .ok (.iconst 1, 1) := by decide +kernel
theorem dX10_count_43 : decode cX10_count 43 = .ok (.goto 4, 3) := by decide +kernel
theorem dX10_count_46 : decode cX10_count 46 = .ok (.iconst 0, 1) := by decide +kernel
theorem dX10_count_47 : decode cX10_count 47 = .ok (.iadd, 1) := by decide +kernel
theorem dX10_count_48 : decode cX10_count 48 = .ok (.istore_n 3, 1) := by decide +kernel
theorem dX10_count_49 : decode cX10_count 49 = .ok (.iinc 4 1, 3) := by decide +kernel
theorem dX10_count_52 : decode cX10_count 52 = .ok (.goto (-45), 3) := by decide +kernel
theorem dX10_count_55 : decode cX10_count 55 = .ok (.iload_n 1, 1) := by decide +kernel
theorem dX10_count_56 : decode cX10_count 56 = .ok (.tableswitch 114 0 8 #[52, 59, 64, 66, 68, 73, 78, 83, 106], 52) := by decide +kernel
theorem dX10_count_108 : decode cX10_count 108 = .ok (.aload_n 0, 1) := by decide +kernel
theorem dX10_count_109 : decode cX10_count 109 = .ok (.getfield 28, 3) := by decide +kernel
theorem dX10_count_112 : decode cX10_count 112 = .ok (.iconst 0, 1) := by decide +kernel
theorem dX10_count_113 : decode cX10_count 113 = .ok (.iaload, 1) := by decide +kernel
theorem dX10_count_114 : decode cX10_count 114 = .ok (.ireturn, 1) := by decide +kernel
theorem dX10_count_115 : decode cX10_count 115 = .ok (.aload_n 0, 1) := by decide +kernel
theorem dX10_count_116 : decode cX10_count 116 = .ok (.invokevirtual 178, 3) := by decide +kernel
theorem dX10_count_119 : decode cX10_count 119 = .ok (.ireturn, 1) := by decide +kernel
theorem dX10_count_120 : decode cX10_count 120 = .ok (.iload_n 2, 1) := by decide +kernel
theorem dX10_count_121 : decode cX10_count 121 = .ok (.ireturn, 1) := by decide +kernel
theorem dX10_count_122 : decode cX10_count 122 = .ok (.iload_n 3, 1) := by decide +kernel
theorem dX10_count_123 : decode cX10_count 123 = .ok (.ireturn, 1) := by decide +kernel
theorem dX10_count_124 : decode cX10_count 124 = .ok (.aload_n 0, 1) := by decide +kernel
theorem dX10_count_125 : decode cX10_count 125 = .ok (.getfield 140, 3) := by decide +kernel
theorem dX10_count_128 : decode cX10_count 128 = .ok (.ireturn, 1) := by decide +kernel
theorem dX10_count_129 : decode cX10_count 129 = .ok (.aload_n 0, 1) := by decide +kernel
theorem dX10_count_130 : decode cX10_count 130 = .ok (.getfield 161, 3) := by decide +kernel
theorem dX10_count_133 : decode cX10_count 133 = .ok (.ireturn, 1) := by decide +kernel
theorem dX10_count_134 : decode cX10_count 134 = .ok (.aload_n 0, 1) := by decide +kernel
theorem dX10_count_135 : decode cX10_count 135 = .ok (.getfield 63, 3) := by decide +kernel
theorem dX10_count_138 : decode cX10_count 138 = .ok (.ireturn, 1) := by decide +kernel
theorem dX10_count_139 : decode cX10_count 139 = .ok (.aload_n 0, 1) := by decide +kernel
theorem dX10_count_140 : decode cX10_count 140 = .ok (.getfield 54, 3) := by decide +kernel
theorem dX10_count_143 : decode cX10_count 143 = .ok (.iconst 0, 1) := by decide +kernel
theorem dX10_count_144 : decode cX10_count 144 = .ok (.iaload, 1) := by decide +kernel
theorem dX10_count_145 : decode cX10_count 145 = .ok (.bipush (-4), 2) := by decide +kernel
theorem dX10_count_147 : decode cX10_count 147 = .ok (.if_icmp .ne 8, 3) := by decide +kernel
theorem dX10_count_150 : decode cX10_count 150 = .ok (.bipush (-4), 2) := by decide +kernel
theorem dX10_count_152 : decode cX10_count 152 = .ok (.goto 9, 3) := by decide +kernel
theorem dX10_count_155 : decode cX10_count 155 = .ok (.aload_n 0, 1) := by decide +kernel
theorem dX10_count_156 : decode cX10_count 156 = .ok (.getfield 57, 3) := by decide +kernel
theorem dX10_count_159 : decode cX10_count 159 = .ok (.iconst 0, 1) := by decide +kernel
theorem dX10_count_160 : decode cX10_count 160 = .ok (.iaload, 1) := by decide +kernel
theorem dX10_count_161 : decode cX10_count 161 = .ok (.ireturn, 1) := by decide +kernel
theorem dX10_count_162 : decode cX10_count 162 = .ok (.aload_n 0, 1) := by decide +kernel
theorem dX10_count_163 : decode cX10_count 163 = .ok (.getfield 28, 3) := by decide +kernel
theorem dX10_count_166 : decode cX10_count 166 = .ok (.bipush 9, 2) := by decide +kernel
theorem dX10_count_168 : decode cX10_count 168 = .ok (.iaload, 1) := by decide +kernel
theorem dX10_count_169 : decode cX10_count 169 = .ok (.ireturn, 1) := by decide +kernel
theorem dX10_count_170 : decode cX10_count 170 = .ok (.iconst (-1), 1) := by decide +kernel
theorem dX10_count_171 : decode cX10_count 171 = .ok (.ireturn, 1) := by decide +kernel
