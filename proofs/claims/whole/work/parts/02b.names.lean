abbrev vwCl : List vw_C := [(RX0, TX0, 3), (RX1, TX1, 4), (RX2, TX2, 13), (RX3, TX3, 4), (RX4, TX4, 4), (RX5, TX5, 7), (RX6, TX6, 3), (RX7, TX7, 5), (RX8, TX8, 6), (RX9, TX9, 10), (RX10, TX10, 32)]

theorem dX0_init_0 : decode cX0_init 0 = .ok (.aload_n 0, 1) := by decide +kernel
theorem dX0_init_1 : decode cX0_init 1 = .ok (.invokespecial 3, 3) := by decide +kernel
theorem dX0_init_4 : decode cX0_init 4 = .ok (.aload_n 0, 1) := by decide +kernel
theorem dX0_init_5 : decode cX0_init 5 = .ok (.iconst 4, 1) := by decide +kernel
theorem dX0_init_6 : decode cX0_init 6 = .ok (.newarray .boolean, 2) := by decide +kernel
theorem dX0_init_8 : decode cX0_init 8 = .ok (.putfield 9, 3) := by decide +kernel
theorem dX0_init_11 : decode cX0_init 11 = .ok (.aload_n 0, 1) := by decide +kernel
theorem dX0_init_12 : decode cX0_init 12 = .ok (.iconst 4, 1) := by decide +kernel
theorem dX0_init_13 : decode cX0_init 13 = .ok (.newarray .int, 2) := by decide +kernel
theorem dX0_init_15 : decode cX0_init 15 = .ok (.putfield 15, 3) := by decide +kernel
theorem dX0_init_18 : decode cX0_init 18 = .ok (.aload_n 0, 1) := by decide +kernel
theorem dX0_init_19 : decode cX0_init 19 = .ok (.iconst 4, 1) := by decide +kernel
theorem dX0_init_20 : decode cX0_init 20 = .ok (.newarray .int, 2) := by decide +kernel
theorem dX0_init_22 : decode cX0_init 22 = .ok (.putfield 19, 3) := by decide +kernel
theorem dX0_init_25 : decode cX0_init 25 = .ok (.return_, 1) := by decide +kernel
set_option maxRecDepth 20000 in
theorem ggX0_allows_X9_isNearTrial : GoodIn wsX0_allows wsX9_isNearTrial := goodIn_r _ [6, 7, 8, 9, 10] (by decide +kernel) (by decide +kernel)
set_option maxRecDepth 20000 in
theorem gX0_allows_X9_isNearTrial_n22 : GoodIn wsX0_allows (wsX9_isNearTrial) := ggX0_allows_X9_isNearTrial
theorem dX0_allows_0 : decode cX0_allows 0 = .ok (.iload_n 2, 1) := by decide +kernel
theorem dX0_allows_1 : decode cX0_allows 1 = .ok (.ifCond .gt 12, 3) := by decide +kernel
theorem dX0_allows_4 : decode cX0_allows 4 = .ok (.aload_n 0, 1) := by decide +kernel
theorem dX0_allows_5 : decode cX0_allows 5 = .ok (.getfield 9, 3) := by decide +kernel
theorem dX0_allows_8 : decode cX0_allows 8 = .ok (.iload_n 1, 1) := by decide +kernel
theorem dX0_allows_9 : decode cX0_allows 9 = .ok (.baload, 1) := by decide +kernel
theorem dX0_allows_10 : decode cX0_allows 10 = .ok (.ifCond .ne 26, 3) := by decide +kernel
theorem dX0_allows_13 : decode cX0_allows 13 = .ok (.aload_n 0, 1) := by decide +kernel
theorem dX0_allows_14 : decode cX0_allows 14 = .ok (.getfield 15, 3) := by decide +kernel
theorem dX0_allows_17 : decode cX0_allows 17 = .ok (.iload_n 1, 1) := by decide +kernel
theorem dX0_allows_18 : decode cX0_allows 18 = .ok (.iaload, 1) := by decide +kernel
theorem dX0_allows_19 : decode cX0_allows 19 = .ok (.aload_n 0, 1) := by decide +kernel
theorem dX0_allows_20 : decode cX0_allows 20 = .ok (.getfield 19, 3) := by decide +kernel
theorem dX0_allows_23 : decode cX0_allows 23 = .ok (.iload_n 1, 1) := by decide +kernel
theorem dX0_allows_24 : decode cX0_allows 24 = .ok (.iaload, 1) := by decide +kernel
theorem dX0_allows_25 : decode cX0_allows 25 = .ok (.iload_n 2, 1) := by decide +kernel
theorem dX0_allows_26 : decode cX0_allows 26 = .ok (.invokestatic 22, 3) := by decide +kernel
theorem dX0_allows_29 : decode cX0_allows 29 = .ok (.ifCond .eq 7, 3) := by decide +kernel
theorem dX0_allows_32 : decode cX0_allows 32 = .ok (.iconst 1, 1) := by decide +kernel
theorem dX0_allows_33 : decode cX0_allows 33 = .ok (.goto 4, 3) := by decide +kernel
theorem dX0_allows_36 : decode cX0_allows 36 = .ok (.iconst 0, 1) := by decide +kernel
theorem dX0_allows_37 : decode cX0_allows 37 = .ok (.ireturn, 1) := by decide +kernel
theorem dX0_allWrecks_0 : decode cX0_allWrecks 0 = .ok (.iconst 0, 1) := by decide +kernel
theorem dX0_allWrecks_1 : decode cX0_allWrecks 1 = .ok (.istore_n 1, 1) := by decide +kernel
theorem dX0_allWrecks_2 : decode cX0_allWrecks 2 = .ok (.iconst 0, 1) := by decide +kernel
theorem dX0_allWrecks_3 : decode cX0_allWrecks 3 = .ok (.istore_n 2, 1) := by decide +kernel
theorem dX0_allWrecks_4 : decode cX0_allWrecks 4 = .ok (.iload_n 2, 1) := by decide +kernel
theorem dX0_allWrecks_5 : decode cX0_allWrecks 5 = .ok (.iconst 4, 1) := by decide +kernel
theorem dX0_allWrecks_6 : decode cX0_allWrecks 6 = .ok (.if_icmp .ge 26, 3) := by decide +kernel
theorem dX0_allWrecks_9 : decode cX0_allWrecks 9 = .ok (.iload_n 1, 1) := by decide +kernel
theorem dX0_allWrecks_10 : decode cX0_allWrecks 10 = .ok (.aload_n 0, 1) := by decide +kernel
theorem dX0_allWrecks_11 : decode cX0_allWrecks 11 = .ok (.getfield 9, 3) := by decide +kernel
theorem dX0_allWrecks_14 : decode cX0_allWrecks 14 = .ok (.iload_n 2, 1) := by decide +kernel
theorem dX0_allWrecks_15 : decode cX0_allWrecks 15 = .ok (.baload, 1) := by decide +kernel
theorem dX0_allWrecks_16 : decode cX0_allWrecks 16 = .ok (.ifCond .eq 7, 3) := by decide +kernel
theorem dX0_allWrecks_19 : decode cX0_allWrecks 19 = .ok (.iconst 1, 1) := by decide +kernel
theorem dX0_allWrecks_20 : decode cX0_allWrecks 20 = .ok (.goto 4, 3) := by decide +kernel
theorem dX0_allWrecks_23 : decode cX0_allWrecks 23 = .ok (.iconst 0, 1) := by decide +kernel
theorem dX0_allWrecks_24 : decode cX0_allWrecks 24 = .ok (.iadd, 1) := by decide +kernel
theorem dX0_allWrecks_25 : decode cX0_allWrecks 25 = .ok (.istore_n 1, 1) := by decide +kernel
theorem dX0_allWrecks_26 : decode cX0_allWrecks 26 = .ok (.iinc 2 1, 3) := by decide +kernel
theorem dX0_allWrecks_29 : decode cX0_allWrecks 29 = .ok (.goto (-25), 3) := by decide +kernel
theorem dX0_allWrecks_32 : decode cX0_allWrecks 32 = .ok (.iload_n 1, 1) := by decide +kernel
theorem dX0_allWrecks_33 : decode cX0_allWrecks 33 = .ok (.ireturn, 1) := by decide +kernel
theorem dX0_allTried_0 : decode cX0_allTried 0 = .ok (.iconst 0, 1) := by decide +kernel
theorem dX0_allTried_1 : decode cX0_allTried 1 = .ok (.istore_n 1, 1) := by decide +kernel
theorem dX0_allTried_2 : decode cX0_allTried 2 = .ok (.iconst 0, 1) := by decide +kernel
theorem dX0_allTried_3 : decode cX0_allTried 3 = .ok (.istore_n 2, 1) := by decide +kernel
theorem dX0_allTried_4 : decode cX0_allTried 4 = .ok (.iload_n 2, 1) := by decide +kernel
theorem dX0_allTried_5 : decode cX0_allTried 5 = .ok (.iconst 4, 1) := by decide +kernel
theorem dX0_allTried_6 : decode cX0_allTried 6 = .ok (.if_icmp .ge 26, 3) := by decide +kernel
theorem dX0_allTried_9 : decode cX0_allTried 9 = .ok (.iload_n 1, 1) := by decide +kernel
theorem dX0_allTried_10 : decode cX0_allTried 10 = .ok (.aload_n 0, 1) := by decide +kernel
theorem dX0_allTried_11 : decode cX0_allTried 11 = .ok (.getfield 15, 3) := by decide +kernel
theorem dX0_allTried_14 : decode cX0_allTried 14 = .ok (.iload_n 2, 1) := by decide +kernel
theorem dX0_allTried_15 : decode cX0_allTried 15 = .ok (.iaload, 1) := by decide +kernel
theorem dX0_allTried_16 : decode cX0_allTried 16 = .ok (.ifCond .le 7, 3) := by decide +kernel
theorem dX0_allTried_19 : decode cX0_allTried 19 = .ok (.iconst 1, 1) := by decide +kernel
theorem dX0_allTried_20 : decode cX0_allTried 20 = .ok (.goto 4, 3) := by decide +kernel
theorem dX0_allTried_23 : decode cX0_allTried 23 = .ok (.iconst 0, 1) := by decide +kernel
theorem dX0_allTried_24 : decode cX0_allTried 24 = .ok (.iadd, 1) := by decide +kernel
theorem dX0_allTried_25 : decode cX0_allTried 25 = .ok (.istore_n 1, 1) := by decide +kernel
theorem dX0_allTried_26 : decode cX0_allTried 26 = .ok (.iinc 2 1, 3) := by decide +kernel
theorem dX0_allTried_29 : decode cX0_allTried 29 = .ok (.goto (-25), 3) := by decide +kernel
theorem dX0_allTried_32 : decode cX0_allTried 32 = .ok (.iload_n 1, 1) := by decide +kernel
theorem dX0_allTried_33 : decode cX0_allTried 33 = .ok (.ireturn, 1) := by decide +kernel
theorem dX1_init_0 : decode cX1_init 0 = .ok (.aload_n 0, 1) := by decide +kernel
theorem dX1_init_1 : decode cX1_init 1 = .ok (.invokespecial 3, 3) := by decide +kernel
theorem dX1_init_4 : decode cX1_init 4 = .ok (.aload_n 0, 1) := by decide +kernel
theorem dX1_init_5 : decode cX1_init 5 = .ok (.iconst 4, 1) := by decide +kernel
theorem dX1_init_6 : decode cX1_init 6 = .ok (.newarray .int, 2) := by decide +kernel
theorem dX1_init_8 : decode cX1_init 8 = .ok (.putfield 9, 3) := by decide +kernel
theorem dX1_init_11 : decode cX1_init 11 = .ok (.aload_n 0, 1) := by decide +kernel
theorem dX1_init_12 : decode cX1_init 12 = .ok (.aload_n 1, 1) := by decide +kernel
theorem dX1_init_13 : decode cX1_init 13 = .ok (.putfield 15, 3) := by decide +kernel
theorem dX1_init_16 : decode cX1_init 16 = .ok (.aload_n 0, 1) := by decide +kernel
theorem dX1_init_17 : decode cX1_init 17 = .ok (.aload_n 2, 1) := by decide +kernel
theorem dX1_init_18 : decode cX1_init 18 = .ok (.putfield 19, 3) := by decide +kernel
theorem dX1_init_21 : decode cX1_init 21 = .ok (.return_, 1) := by decide +kernel
set_option maxRecDepth 20000 in
theorem ggX1_fly_X3_add : GoodIn wsX1_fly wsX3_add := goodIn_r _ [12, 13, 14, 15, 42, 43, 44, 45] (by decide +kernel) (by decide +kernel)
set_option maxRecDepth 20000 in
theorem gX1_fly_X3_add : GoodIn wsX1_fly (wsV RX1 25 RX3 yX3_add wsX3_add) := goodIn_app (goodIn_of _ (by decide +kernel)) ggX1_fly_X3_add
set_option maxRecDepth 20000 in
theorem ggX1_fly_X1_roll : GoodIn wsX1_fly wsX1_roll := goodIn_r _ [20, 21, 22, 32, 33, 34, 35] (by decide +kernel) (by decide +kernel)
set_option maxRecDepth 20000 in
theorem gX1_fly_X1_roll : GoodIn wsX1_fly (wsV RX1 29 RX1 yX1_roll wsX1_roll) := goodIn_app (goodIn_of _ (by decide +kernel)) ggX1_fly_X1_roll
set_option maxRecDepth 20000 in
theorem ggX1_fly_X1_pick : GoodIn wsX1_fly wsX1_pick := goodIn_r _ [26, 16, 17, 18, 19, 20, 21, 22, 32, 33, 34, 35] (by decide +kernel) (by decide +kernel)
set_option maxRecDepth 20000 in
theorem gX1_fly_X1_pick : GoodIn wsX1_fly (wsV RX1 42 RX1 yX1_pick wsX1_pick) := goodIn_app (goodIn_of _ (by decide +kernel)) ggX1_fly_X1_pick
set_option maxRecDepth 20000 in
theorem ggX1_fly_X3_addHomes : GoodIn wsX1_fly wsX3_addHomes := goodIn_r _ [30, 31, 9, 10, 11, 12, 13, 14, 15, 42, 43, 44, 45] (by decide +kernel) (by decide +kernel)
set_option maxRecDepth 20000 in
theorem gX1_fly_X3_addHomes : GoodIn wsX1_fly (wsV RX1 52 RX3 yX3_addHomes wsX3_addHomes) := goodIn_app (goodIn_of _ (by decide +kernel)) ggX1_fly_X3_addHomes
theorem dX1_fly_0 : decode cX1_fly 0 = .ok (.aload_n 0, 1) := by decide +kernel
theorem dX1_fly_1 : decode cX1_fly 1 = .ok (.getfield 19, 3) := by decide +kernel
theorem dX1_fly_4 : decode cX1_fly 4 = .ok (.iconst 0, 1) := by decide +kernel
theorem dX1_fly_5 : decode cX1_fly 5 = .ok (.iconst 1, 1) := by decide +kernel
theorem dX1_fly_6 : decode cX1_fly 6 = .ok (.invokevirtual 25, 3) := by decide +kernel
theorem dX1_fly_9 : decode cX1_fly 9 = .ok (.aload_n 0, 1) := by decide +kernel
theorem dX1_fly_10 : decode cX1_fly 10 = .ok (.sipush 1000, 3) := by decide +kernel
theorem dX1_fly_13 : decode cX1_fly 13 = .ok (.invokevirtual 29, 3) := by decide +kernel
theorem dX1_fly_16 : decode cX1_fly 16 = .ok (.aload_n 0, 1) := by decide +kernel
theorem dX1_fly_17 : decode cX1_fly 17 = .ok (.getfield 15, 3) := by decide +kernel
theorem dX1_fly_20 : decode cX1_fly 20 = .ok (.getfield 33, 3) := by decide +kernel
theorem dX1_fly_23 : decode cX1_fly 23 = .ok (.iconst 4, 1) := by decide +kernel
theorem dX1_fly_24 : decode cX1_fly 24 = .ok (.iaload, 1) := by decide +kernel
theorem dX1_fly_25 : decode cX1_fly 25 = .ok (.if_icmp .ge 5, 3) := by decide +kernel
theorem dX1_fly_28 : decode cX1_fly 28 = .ok (.iconst 0, 1) := by decide +kernel
theorem dX1_fly_29 : decode cX1_fly 29 = .ok (.ireturn, 1) := by decide +kernel
theorem dX1_fly_30 : decode cX1_fly 30 = .ok (.aload_n 0, 1) := by decide +kernel
theorem dX1_fly_31 : decode cX1_fly 31 = .ok (.aload_n 0, 1) := by decide +kernel
theorem dX1_fly_32 : decode cX1_fly 32 = .ok (.getfield 15, 3) := by decide +kernel
theorem dX1_fly_35 : decode cX1_fly 35 = .ok (.getfield 33, 3) := by decide +kernel
theorem dX1_fly_38 : decode cX1_fly 38 = .ok (.aload_n 0, 1) := by decide +kernel
theorem dX1_fly_39 : decode cX1_fly 39 = .ok (.getfield 15, 3) := by decide +kernel
theorem dX1_fly_42 : decode cX1_fly 42 = .ok (.getfield 38, 3) := by decide +kernel
theorem dX1_fly_45 : decode cX1_fly 45 = .ok (.invokevirtual 42, 3) := by decide +kernel
theorem dX1_fly_48 : decode cX1_fly 48 = .ok (.istore_n 1, 1) := by decide +kernel
theorem dX1_fly_49 : decode cX1_fly 49 = .ok (.iconst 0, 1) := by decide +kernel
theorem dX1_fly_50 : decode cX1_fly 50 = .ok (.istore_n 2, 1) := by decide +kernel
theorem dX1_fly_51 : decode cX1_fly 51 = .ok (.iload_n 2, 1) := by decide +kernel
theorem dX1_fly_52 : decode cX1_fly 52 = .ok (.iconst 4, 1) := by decide +kernel
theorem dX1_fly_53 : decode cX1_fly 53 = .ok (.if_icmp .ge 16, 3) := by decide +kernel
theorem dX1_fly_56 : decode cX1_fly 56 = .ok (.aload_n 0, 1) := by decide +kernel
theorem dX1_fly_57 : decode cX1_fly 57 = .ok (.getfield 9, 3) := by decide +kernel
theorem dX1_fly_60 : decode cX1_fly 60 = .ok (.iload_n 2, 1) := by decide +kernel
theorem dX1_fly_61 : decode cX1_fly 61 = .ok (.iconst 0, 1) := by decide +kernel
theorem dX1_fly_62 : decode cX1_fly 62 = .ok (.iastore, 1) := by decide +kernel
theorem dX1_fly_63 : decode cX1_fly 63 = .ok (.iinc 2 1, 3) := by decide +kernel
theorem dX1_fly_66 : decode cX1_fly 66 = .ok (.goto (-15), 3) := by decide +kernel
theorem dX1_fly_69 : decode cX1_fly 69 = .ok (.iconst 0, 1) := by decide +kernel
theorem dX1_fly_70 : decode cX1_fly 70 = .ok (.istore_n 2, 1) := by decide +kernel
theorem dX1_fly_71 : decode cX1_fly 71 = .ok (.iload_n 2, 1) := by decide +kernel
theorem dX1_fly_72 : decode cX1_fly 72 = .ok (.iload_n 1, 1) := by decide +kernel
theorem dX1_fly_73 : decode cX1_fly 73 = .ok (.if_icmp .ge 70, 3) := by decide +kernel
theorem dX1_fly_76 : decode cX1_fly 76 = .ok (.aload_n 0, 1) := by decide +kernel
theorem dX1_fly_77 : decode cX1_fly 77 = .ok (.aload_n 0, 1) := by decide +kernel
theorem dX1_fly_78 : decode cX1_fly 78 = .ok (.getfield 15, 3) := by decide +kernel
theorem dX1_fly_81 : decode cX1_fly 81 = .ok (.getfield 46, 3) := by decide +kernel
theorem dX1_fly_84 : decode cX1_fly 84 = .ok (.aload_n 0, 1) := by decide +kernel
theorem dX1_fly_85 : decode cX1_fly 85 = .ok (.getfield 15, 3) := by decide +kernel
theorem dX1_fly_88 : decode cX1_fly 88 = .ok (.getfield 49, 3) := by decide +kernel
theorem dX1_fly_91 : decode cX1_fly 91 = .ok (.invokevirtual 42, 3) := by decide +kernel
theorem dX1_fly_94 : decode cX1_fly 94 = .ok (.istore_n 3, 1) := by decide +kernel
theorem dX1_fly_95 : decode cX1_fly 95 = .ok (.aload_n 0, 1) := by decide +kernel
theorem dX1_fly_96 : decode cX1_fly 96 = .ok (.bipush 10, 2) := by decide +kernel
theorem dX1_fly_98 : decode cX1_fly 98 = .ok (.invokevirtual 29, 3) := by decide +kernel
theorem dX1_fly_101 : decode cX1_fly 101 = .ok (.aload_n 0, 1) := by decide +kernel
theorem dX1_fly_102 : decode cX1_fly 102 = .ok (.getfield 15, 3) := by decide +kernel
theorem dX1_fly_105 : decode cX1_fly 105 = .ok (.getfield 46, 3) := by decide +kernel
theorem dX1_fly_108 : decode cX1_fly 108 = .ok (.iconst 4, 1) := by decide +kernel
theorem dX1_fly_109 : decode cX1_fly 109 = .ok (.iload_n 3, 1) := by decide +kernel
theorem dX1_fly_110 : decode cX1_fly 110 = .ok (.iadd, 1) := by decide +kernel
theorem dX1_fly_111 : decode cX1_fly 111 = .ok (.iaload, 1) := by decide +kernel
theorem dX1_fly_112 : decode cX1_fly 112 = .ok (.if_icmp .ge 15, 3) := by decide +kernel
theorem dX1_fly_115 : decode cX1_fly 115 = .ok (.aload_n 0, 1) := by decide +kernel
theorem dX1_fly_116 : decode cX1_fly 116 = .ok (.getfield 19, 3) := by decide +kernel
theorem dX1_fly_119 : decode cX1_fly 119 = .ok (.bipush 9, 2) := by decide +kernel
theorem dX1_fly_121 : decode cX1_fly 121 = .ok (.iconst 1, 1) := by decide +kernel
theorem dX1_fly_122 : decode cX1_fly 122 = .ok (.invokevirtual 25, 3) := by decide +kernel
theorem dX1_fly_125 : decode cX1_fly 125 = .ok (.iconst 0, 1) := by decide +kernel
theorem dX1_fly_126 : decode cX1_fly 126 = .ok (.ireturn, 1) := by decide +kernel
theorem dX1_fly_127 : decode cX1_fly 127 = .ok (.aload_n 0, 1) := by decide +kernel
theorem dX1_fly_128 : decode cX1_fly 128 = .ok (.getfield 9, 3) := by decide +kernel
theorem dX1_fly_131 : decode cX1_fly 131 = .ok (.iload_n 3, 1) := by decide +kernel
theorem dX1_fly_132 : decode cX1_fly 132 = .ok (.dup2, 1) := by decide +kernel
theorem dX1_fly_133 : decode cX1_fly 133 = .ok (.iaload, 1) := by decide +kernel
theorem dX1_fly_134 : decode cX1_fly 134 = .ok (.iconst 1, 1) := by decide +kernel
theorem dX1_fly_135 : decode cX1_fly 135 = .ok (.iadd, 1) := by decide +kernel
theorem dX1_fly_136 : decode cX1_fly 136 = .ok (.iastore, 1) := by decide +kernel
theorem dX1_fly_137 : decode cX1_fly 137 = .ok (.iinc 2 1, 3) := by decide +kernel
theorem dX1_fly_140 : decode cX1_fly 140 = .ok (.goto (-69), 3) := by decide +kernel
theorem dX1_fly_143 : decode cX1_fly 143 = .ok (.aload_n 0, 1) := by decide +kernel
theorem dX1_fly_144 : decode cX1_fly 144 = .ok (.getfield 19, 3) := by decide +kernel
theorem dX1_fly_147 : decode cX1_fly 147 = .ok (.iconst 1, 1) := by decide +kernel
theorem dX1_fly_148 : decode cX1_fly 148 = .ok (.aload_n 0, 1) := by decide +kernel
theorem dX1_fly_149 : decode cX1_fly 149 = .ok (.getfield 9, 3) := by decide +kernel
theorem dX1_fly_152 : decode cX1_fly 152 = .ok (.iconst 0, 1) := by decide +kernel
theorem dX1_fly_153 : decode cX1_fly 153 = .ok (.iaload, 1) := by decide +kernel
theorem dX1_fly_154 : decode cX1_fly 154 = .ok (.aload_n 0, 1) := by decide +kernel
theorem dX1_fly_155 : decode cX1_fly 155 = .ok (.getfield 9, 3) := by decide +kernel
theorem dX1_fly_158 : decode cX1_fly 158 = .ok (.iconst 1, 1) := by decide +kernel
theorem dX1_fly_159 : decode cX1_fly 159 = .ok (.iaload, 1) := by decide +kernel
theorem dX1_fly_160 : decode cX1_fly 160 = .ok (.aload_n 0, 1) := by decide +kernel
theorem dX1_fly_161 : decode cX1_fly 161 = .ok (.getfield 9, 3) := by decide +kernel
theorem dX1_fly_164 : decode cX1_fly 164 = .ok (.iconst 2, 1) := by decide +kernel
theorem dX1_fly_165 : decode cX1_fly 165 = .ok (.iaload, 1) := by decide +kernel
theorem dX1_fly_166 : decode cX1_fly 166 = .ok (.aload_n 0, 1) := by decide +kernel
theorem dX1_fly_167 : decode cX1_fly 167 = .ok (.getfield 9, 3) := by decide +kernel
theorem dX1_fly_170 : decode cX1_fly 170 = .ok (.iconst 3, 1) := by decide +kernel
theorem dX1_fly_171 : decode cX1_fly 171 = .ok (.iaload, 1) := by decide +kernel
theorem dX1_fly_172 : decode cX1_fly 172 = .ok (.invokevirtual 52, 3) := by decide +kernel
theorem dX1_fly_175 : decode cX1_fly 175 = .ok (.iconst 1, 1) := by decide +kernel
theorem dX1_fly_176 : decode cX1_fly 176 = .ok (.ireturn, 1) := by decide +kernel
theorem dX1_roll_0 : decode cX1_roll 0 = .ok (.aload_n 0, 1) := by decide +kernel
theorem dX1_roll_1 : decode cX1_roll 1 = .ok (.aload_n 0, 1) := by decide +kernel
theorem dX1_roll_2 : decode cX1_roll 2 = .ok (.getfield 56, 3) := by decide +kernel
theorem dX1_roll_5 : decode cX1_roll 5 = .ok (.ldc 59, 2) := by decide +kernel
theorem dX1_roll_7 : decode cX1_roll 7 = .ok (.imul, 1) := by decide +kernel
theorem dX1_roll_8 : decode cX1_roll 8 = .ok (.sipush 12345, 3) := by decide +kernel
theorem dX1_roll_11 : decode cX1_roll 11 = .ok (.iadd, 1) := by decide +kernel
theorem dX1_roll_12 : decode cX1_roll 12 = .ok (.putfield 56, 3) := by decide +kernel
theorem dX1_roll_15 : decode cX1_roll 15 = .ok (.iload_n 1, 1) := by decide +kernel
theorem dX1_roll_16 : decode cX1_roll 16 = .ok (.iconst 1, 1) := by decide +kernel
theorem dX1_roll_17 : decode cX1_roll 17 = .ok (.if_icmp .ge 7, 3) := by decide +kernel
theorem dX1_roll_20 : decode cX1_roll 20 = .ok (.iconst 0, 1) := by decide +kernel
theorem dX1_roll_21 : decode cX1_roll 21 = .ok (.goto 16, 3) := by decide +kernel
theorem dX1_roll_24 : decode cX1_roll 24 = .ok (.aload_n 0, 1) := by decide +kernel
theorem dX1_roll_25 : decode cX1_roll 25 = .ok (.getfield 56, 3) := by decide +kernel
theorem dX1_roll_28 : decode cX1_roll 28 = .ok (.bipush 16, 2) := by decide +kernel
theorem dX1_roll_30 : decode cX1_roll 30 = .ok (.iushr, 1) := by decide +kernel
theorem dX1_roll_31 : decode cX1_roll 31 = .ok (.sipush 32767, 3) := by decide +kernel
theorem dX1_roll_34 : decode cX1_roll 34 = .ok (.iand, 1) := by decide +kernel
theorem dX1_roll_35 : decode cX1_roll 35 = .ok (.iload_n 1, 1) := by decide +kernel
theorem dX1_roll_36 : decode cX1_roll 36 = .ok (.irem, 1) := by decide +kernel
theorem dX1_roll_37 : decode cX1_roll 37 = .ok (.ireturn, 1) := by decide +kernel
set_option maxRecDepth 20000 in
theorem ggX1_pick_X1_roll : GoodIn wsX1_pick wsX1_roll := goodIn_r _ [5, 6, 7, 8, 9, 10, 11] (by decide +kernel) (by decide +kernel)
set_option maxRecDepth 20000 in
theorem gX1_pick_X1_roll : GoodIn wsX1_pick (wsV RX1 29 RX1 yX1_roll wsX1_roll) := goodIn_app (goodIn_of _ (by decide +kernel)) ggX1_pick_X1_roll
theorem dX1_pick_0 : decode cX1_pick 0 = .ok (.aload_n 0, 1) := by decide +kernel
theorem dX1_pick_1 : decode cX1_pick 1 = .ok (.iload_n 2, 1) := by decide +kernel
theorem dX1_pick_2 : decode cX1_pick 2 = .ok (.invokevirtual 29, 3) := by decide +kernel
theorem dX1_pick_5 : decode cX1_pick 5 = .ok (.istore_n 3, 1) := by decide +kernel
theorem dX1_pick_6 : decode cX1_pick 6 = .ok (.iconst 0, 1) := by decide +kernel
theorem dX1_pick_7 : decode cX1_pick 7 = .ok (.istore 4, 2) := by decide +kernel
theorem dX1_pick_9 : decode cX1_pick 9 = .ok (.iload 4, 2) := by decide +kernel
theorem dX1_pick_11 : decode cX1_pick 11 = .ok (.iconst 3, 1) := by decide +kernel
theorem dX1_pick_12 : decode cX1_pick 12 = .ok (.if_icmp .ge 27, 3) := by decide +kernel
theorem dX1_pick_15 : decode cX1_pick 15 = .ok (.iload_n 3, 1) := by decide +kernel
theorem dX1_pick_16 : decode cX1_pick 16 = .ok (.aload_n 1, 1) := by decide +kernel
theorem dX1_pick_17 : decode cX1_pick 17 = .ok (.iload 4, 2) := by decide +kernel
theorem dX1_pick_19 : decode cX1_pick 19 = .ok (.iaload, 1) := by decide +kernel
theorem dX1_pick_20 : decode cX1_pick 20 = .ok (.if_icmp .ge 6, 3) := by decide +kernel
theorem dX1_pick_23 : decode cX1_pick 23 = .ok (.iload 4, 2) := by decide +kernel
theorem dX1_pick_25 : decode cX1_pick 25 = .ok (.ireturn, 1) := by decide +kernel
theorem dX1_pick_26 : decode cX1_pick 26 = .ok (.iload_n 3, 1) := by decide +kernel
theorem dX1_pick_27 : decode cX1_pick 27 = .ok (.aload_n 1, 1) := by decide +kernel
theorem dX1_pick_28 : decode cX1_pick 28 = .ok (.iload 4, 2) := by decide +kernel
theorem dX1_pick_30 : decode cX1_pick 30 = .ok (.iaload, 1) := by decide +kernel
theorem dX1_pick_31 : decode cX1_pick 31 = .ok (.isub, 1) := by decide +kernel
theorem dX1_pick_32 : decode cX1_pick 32 = .ok (.istore_n 3, 1) := by decide +kernel
theorem dX1_pick_33 : decode cX1_pick 33 = .ok (.iinc 4 1, 3) := by decide +kernel
theorem dX1_pick_36 : decode cX1_pick 36 = .ok (.goto (-27), 3) := by decide +kernel
theorem dX1_pick_39 : decode cX1_pick 39 = .ok (.iconst 3, 1) := by decide +kernel
theorem dX1_pick_40 : decode cX1_pick 40 = .ok (.ireturn, 1) := by decide +kernel
theorem dX2_init_0 : decode cX2_init 0 = .ok (.aload_n 0, 1) := by decide +kernel
theorem dX2_init_1 : decode cX2_init 1 = .ok (.invokespecial 5, 3) := by decide +kernel
theorem dX2_init_4 : decode cX2_init 4 = .ok (.aload_n 0, 1) := by decide +kernel
theorem dX2_init_5 : decode cX2_init 5 = .ok (.sipush 1331, 3) := by decide +kernel
theorem dX2_init_8 : decode cX2_init 8 = .ok (.newarray .int, 2) := by decide +kernel
theorem dX2_init_10 : decode cX2_init 10 = .ok (.putfield 11, 3) := by decide +kernel
theorem dX2_init_13 : decode cX2_init 13 = .ok (.aload_n 0, 1) := by decide +kernel
theorem dX2_init_14 : decode cX2_init 14 = .ok (.sipush 801, 3) := by decide +kernel
theorem dX2_init_17 : decode cX2_init 17 = .ok (.newarray .long, 2) := by decide +kernel
theorem dX2_init_19 : decode cX2_init 19 = .ok (.putfield 15, 3) := by decide +kernel
theorem dX2_init_22 : decode cX2_init 22 = .ok (.aload_n 0, 1) := by decide +kernel
theorem dX2_init_23 : decode cX2_init 23 = .ok (.bipush 44, 2) := by decide +kernel
theorem dX2_init_25 : decode cX2_init 25 = .ok (.newarray .int, 2) := by decide +kernel
theorem dX2_init_27 : decode cX2_init 27 = .ok (.putfield 19, 3) := by decide +kernel
theorem dX2_init_30 : decode cX2_init 30 = .ok (.aload_n 0, 1) := by decide +kernel
theorem dX2_init_31 : decode cX2_init 31 = .ok (.bipush 16, 2) := by decide +kernel
theorem dX2_init_33 : decode cX2_init 33 = .ok (.newarray .int, 2) := by decide +kernel
theorem dX2_init_35 : decode cX2_init 35 = .ok (.putfield 22, 3) := by decide +kernel
theorem dX2_init_38 : decode cX2_init 38 = .ok (.aload_n 0, 1) := by decide +kernel
theorem dX2_init_39 : decode cX2_init 39 = .ok (.iconst 1, 1) := by decide +kernel
theorem dX2_init_40 : decode cX2_init 40 = .ok (.putfield 25, 3) := by decide +kernel
theorem dX2_init_43 : decode cX2_init 43 = .ok (.aload_n 0, 1) := by decide +kernel
theorem dX2_init_44 : decode cX2_init 44 = .ok (.bipush (-9), 2) := by decide +kernel
theorem dX2_init_46 : decode cX2_init 46 = .ok (.putfield 29, 3) := by decide +kernel
theorem dX2_init_49 : decode cX2_init 49 = .ok (.aload_n 0, 1) := by decide +kernel
theorem dX2_init_50 : decode cX2_init 50 = .ok (.bipush (-9), 2) := by decide +kernel
theorem dX2_init_52 : decode cX2_init 52 = .ok (.putfield 33, 3) := by decide +kernel
theorem dX2_init_55 : decode cX2_init 55 = .ok (.aload_n 0, 1) := by decide +kernel
theorem dX2_init_56 : decode cX2_init 56 = .ok (.aload_n 1, 1) := by decide +kernel
theorem dX2_init_57 : decode cX2_init 57 = .ok (.putfield 36, 3) := by decide +kernel
theorem dX2_init_60 : decode cX2_init 60 = .ok (.aload_n 0, 1) := by decide +kernel
theorem dX2_init_61 : decode cX2_init 61 = .ok (.aload_n 2, 1) := by decide +kernel
theorem dX2_init_62 : decode cX2_init 62 = .ok (.putfield 40, 3) := by decide +kernel
theorem dX2_init_65 : decode cX2_init 65 = .ok (.aload_n 0, 1) := by decide +kernel
theorem dX2_init_66 : decode cX2_init 66 = .ok (.aload_n 3, 1) := by decide +kernel
theorem dX2_init_67 : decode cX2_init 67 = .ok (.putfield 44, 3) := by decide +kernel
theorem dX2_init_70 : decode cX2_init 70 = .ok (.return_, 1) := by decide +kernel
theorem dX2_forget_0 : decode cX2_forget 0 = .ok (.aload_n 0, 1) := by decide +kernel
theorem dX2_forget_1 : decode cX2_forget 1 = .ok (.iconst 1, 1) := by decide +kernel
theorem dX2_forget_2 : decode cX2_forget 2 = .ok (.putfield 25, 3) := by decide +kernel
theorem dX2_forget_5 : decode cX2_forget 5 = .ok (.aload_n 0, 1) := by decide +kernel
theorem dX2_forget_6 : decode cX2_forget 6 = .ok (.bipush (-9), 2) := by decide +kernel
theorem dX2_forget_8 : decode cX2_forget 8 = .ok (.putfield 29, 3) := by decide +kernel
theorem dX2_forget_11 : decode cX2_forget 11 = .ok (.aload_n 0, 1) := by decide +kernel
theorem dX2_forget_12 : decode cX2_forget 12 = .ok (.bipush (-9), 2) := by decide +kernel
theorem dX2_forget_14 : decode cX2_forget 14 = .ok (.putfield 33, 3) := by decide +kernel
theorem dX2_forget_17 : decode cX2_forget 17 = .ok (.return_, 1) := by decide +kernel
set_option maxRecDepth 20000 in
theorem ggX2_lawFits_X9_figure : GoodIn wsX2_lawFits wsX9_figure := goodIn_r _ [5] (by decide +kernel) (by decide +kernel)
set_option maxRecDepth 20000 in
theorem gX2_lawFits_X9_figure_n48 : GoodIn wsX2_lawFits (wsX9_figure) := ggX2_lawFits_X9_figure
set_option maxRecDepth 20000 in
theorem ggX2_lawFits_X0_allows : GoodIn wsX2_lawFits wsX0_allows := goodIn_r _ [10, 11, 12, 13, 14, 4, 15, 16, 17, 18, 19, 86, 87, 88] (by decide +kernel) (by decide +kernel)
set_option maxRecDepth 20000 in
theorem gX2_lawFits_X0_allows : GoodIn wsX2_lawFits (wsV RX2 52 RX0 yX0_allows wsX0_allows) := goodIn_app (goodIn_of _ (by decide +kernel)) ggX2_lawFits_X0_allows
set_option maxRecDepth 20000 in
theorem ggX2_lawFits_X8_stand : GoodIn wsX2_lawFits wsX8_stand := goodIn_r _ [24, 3, 4, 5, 25, 26, 27, 23, 28, 29, 89, 90, 91, 92, 93, 94] (by decide +kernel) (by decide +kernel)
set_option maxRecDepth 20000 in
theorem gX2_lawFits_X8_stand : GoodIn wsX2_lawFits (wsV RX2 58 RX8 yX8_stand wsX8_stand) := goodIn_app (goodIn_of _ (by decide +kernel)) ggX2_lawFits_X8_stand
set_option maxRecDepth 20000 in
theorem ggX2_lawFits_X2_homesAreNear : GoodIn wsX2_lawFits wsX2_homesAreNear := goodIn_r _ [34, 35, 2, 36, 37, 38, 18, 39, 40, 41, 42, 43, 44, 45, 46, 47, 48, 23, 49, 50, 51, 52, 53, 54, 55, 56, 57, 58, 59, 73, 74, 75, 76, 77, 78, 79, 80, 81, 82, 83, 84, 85, 89, 90, 91, 92, 93, 94, 95, 96, 97, 98] (by decide +kernel) (by decide +kernel)
set_option maxRecDepth 20000 in
theorem gX2_lawFits_X2_homesAreNear : GoodIn wsX2_lawFits (wsV RX2 64 RX2 yX2_homesAreNear wsX2_homesAreNear) := goodIn_app (goodIn_of _ (by decide +kernel)) ggX2_lawFits_X2_homesAreNear
set_option maxRecDepth 20000 in
theorem ggX2_lawFits_X8_holeRate : GoodIn wsX2_lawFits wsX8_holeRate := goodIn_r _ [63, 50, 51, 52, 53, 54, 23, 55, 89, 90, 91, 92, 93, 94] (by decide +kernel) (by decide +kernel)
set_option maxRecDepth 20000 in
theorem gX2_lawFits_X8_holeRate : GoodIn wsX2_lawFits (wsV RX2 67 RX8 yX8_holeRate wsX8_holeRate) := goodIn_app (goodIn_of _ (by decide +kernel)) ggX2_lawFits_X8_holeRate
set_option maxRecDepth 20000 in
theorem ggX2_lawFits_X2_holesAreNear : GoodIn wsX2_lawFits wsX2_holesAreNear := goodIn_r _ [67, 35, 2, 36, 37, 38, 18, 39, 40, 41, 42, 43, 44, 45, 68, 26, 27, 23, 28, 29, 69, 70, 71, 72, 73, 74, 75, 76, 77, 78, 79, 80, 81, 82, 83, 84, 85, 89, 90, 91, 92, 93, 94, 95, 96, 97, 98] (by decide +kernel) (by decide +kernel)
set_option maxRecDepth 20000 in
theorem gX2_lawFits_X2_holesAreNear : GoodIn wsX2_lawFits (wsV RX2 71 RX2 yX2_holesAreNear wsX2_holesAreNear) := goodIn_app (goodIn_of _ (by decide +kernel)) ggX2_lawFits_X2_holesAreNear
theorem dX2_lawFits_0 : decode cX2_lawFits 0 = .ok (.iconst 0, 1) := by decide +kernel
theorem dX2_lawFits_1 : decode cX2_lawFits 1 = .ok (.istore_n 3, 1) := by decide +kernel
theorem dX2_lawFits_2 : decode cX2_lawFits 2 = .ok (.iload_n 3, 1) := by decide +kernel
theorem dX2_lawFits_3 : decode cX2_lawFits 3 = .ok (.iconst 4, 1) := by decide +kernel
theorem dX2_lawFits_4 : decode cX2_lawFits 4 = .ok (.if_icmp .ge 27, 3) := by decide +kernel
theorem dX2_lawFits_7 : decode cX2_lawFits 7 = .ok (.aload_n 0, 1) := by decide +kernel
theorem dX2_lawFits_8 : decode cX2_lawFits 8 = .ok (.getfield 44, 3) := by decide +kernel
theorem dX2_lawFits_11 : decode cX2_lawFits 11 = .ok (.iload_n 3, 1) := by decide +kernel
theorem dX2_lawFits_12 : decode cX2_lawFits 12 = .ok (.iload_n 1, 1) := by decide +kernel
theorem dX2_lawFits_13 : decode cX2_lawFits 13 = .ok (.iload_n 3, 1) := by decide +kernel
theorem dX2_lawFits_14 : decode cX2_lawFits 14 = .ok (.invokestatic 48, 3) := by decide +kernel
theorem dX2_lawFits_17 : decode cX2_lawFits 17 = .ok (.invokevirtual 52, 3) := by decide +kernel
theorem dX2_lawFits_20 : decode cX2_lawFits 20 = .ok (.ifCond .ne 5, 3) := by decide +kernel
theorem dX2_lawFits_23 : decode cX2_lawFits 23 = .ok (.iconst 0, 1) := by decide +kernel
theorem dX2_lawFits_24 : decode cX2_lawFits 24 = .ok (.ireturn, 1) := by decide +kernel
theorem dX2_lawFits_25 : decode cX2_lawFits 25 = .ok (.iinc 3 1, 3) := by decide +kernel
theorem dX2_lawFits_28 : decode cX2_lawFits 28 = .ok (.goto (-26), 3) := by decide +kernel
theorem dX2_lawFits_31 : decode cX2_lawFits 31 = .ok (.aload_n 0, 1) := by decide +kernel
theorem dX2_lawFits_32 : decode cX2_lawFits 32 = .ok (.getfield 36, 3) := by decide +kernel
theorem dX2_lawFits_35 : decode cX2_lawFits 35 = .ok (.iload_n 1, 1) := by decide +kernel
theorem dX2_lawFits_36 : decode cX2_lawFits 36 = .ok (.invokevirtual 58, 3) := by decide +kernel
theorem dX2_lawFits_39 : decode cX2_lawFits 39 = .ok (.istore_n 3, 1) := by decide +kernel
theorem dX2_lawFits_40 : decode cX2_lawFits 40 = .ok (.aload_n 0, 1) := by decide +kernel
theorem dX2_lawFits_41 : decode cX2_lawFits 41 = .ok (.iload_n 3, 1) := by decide +kernel
theorem dX2_lawFits_42 : decode cX2_lawFits 42 = .ok (.iload_n 2, 1) := by decide +kernel
theorem dX2_lawFits_43 : decode cX2_lawFits 43 = .ok (.invokevirtual 64, 3) := by decide +kernel
theorem dX2_lawFits_46 : decode cX2_lawFits 46 = .ok (.ifCond .ne 5, 3) := by decide +kernel
theorem dX2_lawFits_49 : decode cX2_lawFits 49 = .ok (.iconst 0, 1) := by decide +kernel
theorem dX2_lawFits_50 : decode cX2_lawFits 50 = .ok (.ireturn, 1) := by decide +kernel
theorem dX2_lawFits_51 : decode cX2_lawFits 51 = .ok (.aload_n 0, 1) := by decide +kernel
theorem dX2_lawFits_52 : decode cX2_lawFits 52 = .ok (.getfield 36, 3) := by decide +kernel
theorem dX2_lawFits_55 : decode cX2_lawFits 55 = .ok (.iload_n 3, 1) := by decide +kernel
theorem dX2_lawFits_56 : decode cX2_lawFits 56 = .ok (.i2l, 1) := by decide +kernel
theorem dX2_lawFits_57 : decode cX2_lawFits 57 = .ok (.invokevirtual 67, 3) := by decide +kernel
theorem dX2_lawFits_60 : decode cX2_lawFits 60 = .ok (.lstore 4, 2) := by decide +kernel
theorem dX2_lawFits_62 : decode cX2_lawFits 62 = .ok (.iconst 0, 1) := by decide +kernel
theorem dX2_lawFits_63 : decode cX2_lawFits 63 = .ok (.istore 6, 2) := by decide +kernel
theorem dX2_lawFits_65 : decode cX2_lawFits 65 = .ok (.iload 6, 2) := by decide +kernel
theorem dX2_lawFits_67 : decode cX2_lawFits 67 = .ok (.iconst 4, 1) := by decide +kernel
theorem dX2_lawFits_68 : decode cX2_lawFits 68 = .ok (.if_icmp .ge 29, 3) := by decide +kernel
theorem dX2_lawFits_71 : decode cX2_lawFits 71 = .ok (.aload_n 0, 1) := by decide +kernel
theorem dX2_lawFits_72 : decode cX2_lawFits 72 = .ok (.iload 6, 2) := by decide +kernel
theorem dX2_lawFits_74 : decode cX2_lawFits 74 = .ok (.iload_n 1, 1) := by decide +kernel
theorem dX2_lawFits_75 : decode cX2_lawFits 75 = .ok (.iload 6, 2) := by decide +kernel
theorem dX2_lawFits_77 : decode cX2_lawFits 77 = .ok (.invokestatic 48, 3) := by decide +kernel
theorem dX2_lawFits_80 : decode cX2_lawFits 80 = .ok (.lload 4, 2) := by decide +kernel
theorem dX2_lawFits_82 : decode cX2_lawFits 82 = .ok (.iload_n 2, 1) := by decide +kernel
theorem dX2_lawFits_83 : decode cX2_lawFits 83 = .ok (.invokevirtual 71, 3) := by decide +kernel
theorem dX2_lawFits_86 : decode cX2_lawFits 86 = .ok (.ifCond .ne 5, 3) := by decide +kernel
theorem dX2_lawFits_89 : decode cX2_lawFits 89 = .ok (.iconst 0, 1) := by decide +kernel
theorem dX2_lawFits_90 : decode cX2_lawFits 90 = .ok (.ireturn, 1) := by decide +kernel
theorem dX2_lawFits_91 : decode cX2_lawFits 91 = .ok (.iinc 6 1, 3) := by decide +kernel
theorem dX2_lawFits_94 : decode cX2_lawFits 94 = .ok (.goto (-29), 3) := by decide +kernel
theorem dX2_lawFits_97 : decode cX2_lawFits 97 = .ok (.iconst 1, 1) := by decide +kernel
theorem dX2_lawFits_98 : decode cX2_lawFits 98 = .ok (.ireturn, 1) := by decide +kernel
set_option maxRecDepth 20000 in
theorem ggX2_fitting_X2_settleStands : GoodIn wsX2_fitting wsX2_settleStands := goodIn_r _ [7, 8, 9, 10, 11, 12, 13, 14, 15, 6, 16, 17, 18, 19, 20, 21, 22, 23, 24, 25, 26, 27, 28, 29, 30, 31, 32, 33, 34, 35, 36, 37, 38, 39, 40, 41, 42, 43, 44, 45, 46, 47, 100, 101, 102, 103, 104, 105, 106, 107, 108, 109, 110, 111, 112, 113, 114, 115, 116, 117, 118, 119, 120, 121, 122] (by decide +kernel) (by decide +kernel)
set_option maxRecDepth 20000 in
theorem gX2_fitting_X2_settleStands : GoodIn wsX2_fitting (wsV RX2 75 RX2 yX2_settleStands wsX2_settleStands) := goodIn_app (goodIn_of _ (by decide +kernel)) ggX2_fitting_X2_settleStands
set_option maxRecDepth 20000 in
theorem ggX2_fitting_X2_gather : GoodIn wsX2_fitting wsX2_gather := goodIn_r _ [51, 52, 53, 54, 55, 6, 56, 57, 58, 2, 59, 60, 61, 62, 63, 64, 65, 66, 67, 68, 69, 70, 71, 72, 73, 21, 74, 75, 76, 77, 78, 8, 11, 12, 79, 80, 81, 32, 82, 83, 84, 85, 86, 87, 9, 88, 89, 90, 91, 17, 18, 19, 20, 22, 23, 24, 25, 26, 27, 28, 92, 93, 94, 95, 96, 97, 98, 99, 100, 101, 102, 103, 104, 105, 106, 107, 108, 109, 110, 111, 112, 123, 124, 125, 113, 114, 115, 116, 117, 118, 119, 120, 121, 122] (by decide +kernel) (by decide +kernel)
set_option maxRecDepth 20000 in
theorem gX2_fitting_X2_gather : GoodIn wsX2_fitting (wsV RX2 78 RX2 yX2_gather wsX2_gather) := goodIn_app (goodIn_of _ (by decide +kernel)) ggX2_fitting_X2_gather
theorem dX2_fitting_0 : decode cX2_fitting 0 = .ok (.aload_n 0, 1) := by decide +kernel
theorem dX2_fitting_1 : decode cX2_fitting 1 = .ok (.getfield 25, 3) := by decide +kernel
theorem dX2_fitting_4 : decode cX2_fitting 4 = .ok (.ifCond .eq 16, 3) := by decide +kernel
theorem dX2_fitting_7 : decode cX2_fitting 7 = .ok (.aload_n 0, 1) := by decide +kernel
theorem dX2_fitting_8 : decode cX2_fitting 8 = .ok (.invokevirtual 75, 3) := by decide +kernel
theorem dX2_fitting_11 : decode cX2_fitting 11 = .ok (.aload_n 0, 1) := by decide +kernel
theorem dX2_fitting_12 : decode cX2_fitting 12 = .ok (.invokevirtual 78, 3) := by decide +kernel
theorem dX2_fitting_15 : decode cX2_fitting 15 = .ok (.aload_n 0, 1) := by decide +kernel
theorem dX2_fitting_16 : decode cX2_fitting 16 = .ok (.iconst 0, 1) := by decide +kernel
theorem dX2_fitting_17 : decode cX2_fitting 17 = .ok (.putfield 25, 3) := by decide +kernel
theorem dX2_fitting_20 : decode cX2_fitting 20 = .ok (.aload_n 0, 1) := by decide +kernel
theorem dX2_fitting_21 : decode cX2_fitting 21 = .ok (.getfield 81, 3) := by decide +kernel
theorem dX2_fitting_24 : decode cX2_fitting 24 = .ok (.ireturn, 1) := by decide +kernel
theorem dX2_withFalls_0 : decode cX2_withFalls 0 = .ok (.aload_n 0, 1) := by decide +kernel
theorem dX2_withFalls_1 : decode cX2_withFalls 1 = .ok (.getfield 19, 3) := by decide +kernel
theorem dX2_withFalls_4 : decode cX2_withFalls 4 = .ok (.bipush 11, 2) := by decide +kernel
theorem dX2_withFalls_6 : decode cX2_withFalls 6 = .ok (.iload_n 1, 1) := by decide +kernel
theorem dX2_withFalls_7 : decode cX2_withFalls 7 = .ok (.imul, 1) := by decide +kernel
theorem dX2_withFalls_8 : decode cX2_withFalls 8 = .ok (.iload_n 2, 1) := by decide +kernel
theorem dX2_withFalls_9 : decode cX2_withFalls 9 = .ok (.iadd, 1) := by decide +kernel
theorem dX2_withFalls_10 : decode cX2_withFalls 10 = .ok (.iaload, 1) := by decide +kernel
theorem dX2_withFalls_11 : decode cX2_withFalls 11 = .ok (.ireturn, 1) := by decide +kernel
set_option maxRecDepth 20000 in
theorem ggX2_leftBy_X9_isNearTrial : GoodIn wsX2_leftBy wsX9_isNearTrial := goodIn_r _ [3, 4, 5, 6, 7] (by decide +kernel) (by decide +kernel)
set_option maxRecDepth 20000 in
theorem gX2_leftBy_X9_isNearTrial_n84 : GoodIn wsX2_leftBy (wsX9_isNearTrial) := ggX2_leftBy_X9_isNearTrial
set_option maxRecDepth 20000 in
theorem ggX2_leftBy_X2_withFalls : GoodIn wsX2_leftBy wsX2_withFalls := goodIn_r _ [12, 13, 14, 15, 16, 17, 18, 19, 20, 21, 22, 23, 24, 25, 26] (by decide +kernel) (by decide +kernel)
set_option maxRecDepth 20000 in
theorem gX2_leftBy_X2_withFalls : GoodIn wsX2_leftBy (wsV RX2 88 RX2 yX2_withFalls wsX2_withFalls) := goodIn_app (goodIn_of _ (by decide +kernel)) ggX2_leftBy_X2_withFalls
theorem dX2_leftBy_0 : decode cX2_leftBy 0 = .ok (.iconst 0, 1) := by decide +kernel
theorem dX2_leftBy_1 : decode cX2_leftBy 1 = .ok (.istore 4, 2) := by decide +kernel
theorem dX2_leftBy_3 : decode cX2_leftBy 3 = .ok (.iconst 0, 1) := by decide +kernel
theorem dX2_leftBy_4 : decode cX2_leftBy 4 = .ok (.istore 5, 2) := by decide +kernel
theorem dX2_leftBy_6 : decode cX2_leftBy 6 = .ok (.iload 5, 2) := by decide +kernel
theorem dX2_leftBy_8 : decode cX2_leftBy 8 = .ok (.bipush 10, 2) := by decide +kernel
theorem dX2_leftBy_10 : decode cX2_leftBy 10 = .ok (.if_icmp .gt 35, 3) := by decide +kernel
theorem dX2_leftBy_13 : decode cX2_leftBy 13 = .ok (.iload 4, 2) := by decide +kernel
theorem dX2_leftBy_15 : decode cX2_leftBy 15 = .ok (.iload_n 2, 1) := by decide +kernel
theorem dX2_leftBy_16 : decode cX2_leftBy 16 = .ok (.iload_n 3, 1) := by decide +kernel
theorem dX2_leftBy_17 : decode cX2_leftBy 17 = .ok (.iload 5, 2) := by decide +kernel
theorem dX2_leftBy_19 : decode cX2_leftBy 19 = .ok (.invokestatic 84, 3) := by decide +kernel
theorem dX2_leftBy_22 : decode cX2_leftBy 22 = .ok (.ifCond .eq 13, 3) := by decide +kernel
theorem dX2_leftBy_25 : decode cX2_leftBy 25 = .ok (.aload_n 0, 1) := by decide +kernel
theorem dX2_leftBy_26 : decode cX2_leftBy 26 = .ok (.iload_n 1, 1) := by decide +kernel
theorem dX2_leftBy_27 : decode cX2_leftBy 27 = .ok (.iload 5, 2) := by decide +kernel
theorem dX2_leftBy_29 : decode cX2_leftBy 29 = .ok (.invokevirtual 88, 3) := by decide +kernel
theorem dX2_leftBy_32 : decode cX2_leftBy 32 = .ok (.goto 4, 3) := by decide +kernel
theorem dX2_leftBy_35 : decode cX2_leftBy 35 = .ok (.iconst 0, 1) := by decide +kernel
theorem dX2_leftBy_36 : decode cX2_leftBy 36 = .ok (.iadd, 1) := by decide +kernel
theorem dX2_leftBy_37 : decode cX2_leftBy 37 = .ok (.istore 4, 2) := by decide +kernel
theorem dX2_leftBy_39 : decode cX2_leftBy 39 = .ok (.iinc 5 1, 3) := by decide +kernel
theorem dX2_leftBy_42 : decode cX2_leftBy 42 = .ok (.goto (-36), 3) := by decide +kernel
theorem dX2_leftBy_45 : decode cX2_leftBy 45 = .ok (.iload 4, 2) := by decide +kernel
theorem dX2_leftBy_47 : decode cX2_leftBy 47 = .ok (.ireturn, 1) := by decide +kernel
set_option maxRecDepth 20000 in
theorem ggX2_oftenerIn_X2_isKept : GoodIn wsX2_oftenerIn wsX2_isKept := goodIn_r _ [7, 8, 12, 13, 14, 15, 16, 17, 18, 19, 20, 21, 22, 23, 24] (by decide +kernel) (by decide +kernel)
set_option maxRecDepth 20000 in
theorem gX2_oftenerIn_X2_isKept : GoodIn wsX2_oftenerIn (wsV RX2 97 RX2 yX2_isKept wsX2_isKept) := goodIn_app (goodIn_of _ (by decide +kernel)) ggX2_oftenerIn_X2_isKept
set_option maxRecDepth 20000 in
theorem ggX2_oftenerIn_X9_figure : GoodIn wsX2_oftenerIn wsX9_figure := goodIn_r _ [11] (by decide +kernel) (by decide +kernel)
set_option maxRecDepth 20000 in
theorem gX2_oftenerIn_X9_figure_n48 : GoodIn wsX2_oftenerIn (wsX9_figure) := ggX2_oftenerIn_X9_figure
theorem dX2_oftenerIn_0 : decode cX2_oftenerIn 0 = .ok (.iconst 0, 1) := by decide +kernel
theorem dX2_oftenerIn_1 : decode cX2_oftenerIn 1 = .ok (.istore_n 3, 1) := by decide +kernel
theorem dX2_oftenerIn_2 : decode cX2_oftenerIn 2 = .ok (.aload_n 0, 1) := by decide +kernel
theorem dX2_oftenerIn_3 : decode cX2_oftenerIn 3 = .ok (.getfield 91, 3) := by decide +kernel
theorem dX2_oftenerIn_6 : decode cX2_oftenerIn 6 = .ok (.istore 4, 2) := by decide +kernel
theorem dX2_oftenerIn_8 : decode cX2_oftenerIn 8 = .ok (.iload 4, 2) := by decide +kernel
theorem dX2_oftenerIn_10 : decode cX2_oftenerIn 10 = .ok (.aload_n 0, 1) := by decide +kernel
theorem dX2_oftenerIn_11 : decode cX2_oftenerIn 11 = .ok (.getfield 94, 3) := by decide +kernel
theorem dX2_oftenerIn_14 : decode cX2_oftenerIn 14 = .ok (.if_icmp .gt 41, 3) := by decide +kernel
theorem dX2_oftenerIn_17 : decode cX2_oftenerIn 17 = .ok (.iload_n 3, 1) := by decide +kernel
theorem dX2_oftenerIn_18 : decode cX2_oftenerIn 18 = .ok (.aload_n 0, 1) := by decide +kernel
theorem dX2_oftenerIn_19 : decode cX2_oftenerIn 19 = .ok (.iload 4, 2) := by decide +kernel
theorem dX2_oftenerIn_21 : decode cX2_oftenerIn 21 = .ok (.invokevirtual 97, 3) := by decide +kernel
theorem dX2_oftenerIn_24 : decode cX2_oftenerIn 24 = .ok (.ifCond .eq 22, 3) := by decide +kernel
theorem dX2_oftenerIn_27 : decode cX2_oftenerIn 27 = .ok (.iload 4, 2) := by decide +kernel
theorem dX2_oftenerIn_29 : decode cX2_oftenerIn 29 = .ok (.iload_n 1, 1) := by decide +kernel
theorem dX2_oftenerIn_30 : decode cX2_oftenerIn 30 = .ok (.invokestatic 48, 3) := by decide +kernel
theorem dX2_oftenerIn_33 : decode cX2_oftenerIn 33 = .ok (.iload 4, 2) := by decide +kernel
theorem dX2_oftenerIn_35 : decode cX2_oftenerIn 35 = .ok (.iload_n 2, 1) := by decide +kernel
theorem dX2_oftenerIn_36 : decode cX2_oftenerIn 36 = .ok (.invokestatic 48, 3) := by decide +kernel
theorem dX2_oftenerIn_39 : decode cX2_oftenerIn 39 = .ok (.if_icmp .le 7, 3) := by decide +kernel
theorem dX2_oftenerIn_42 : decode cX2_oftenerIn 42 = .ok (.iconst 1, 1) := by decide +kernel
theorem dX2_oftenerIn_43 : decode cX2_oftenerIn 43 = .ok (.goto 4, 3) := by decide +kernel
theorem dX2_oftenerIn_46 : decode cX2_oftenerIn 46 = .ok (.iconst 0, 1) := by decide +kernel
theorem dX2_oftenerIn_47 : decode cX2_oftenerIn 47 = .ok (.iadd, 1) := by decide +kernel
theorem dX2_oftenerIn_48 : decode cX2_oftenerIn 48 = .ok (.istore_n 3, 1) := by decide +kernel
theorem dX2_oftenerIn_49 : decode cX2_oftenerIn 49 = .ok (.iinc 4 1, 3) := by decide +kernel
theorem dX2_oftenerIn_52 : decode cX2_oftenerIn 52 = .ok (.goto (-44), 3) := by decide +kernel
theorem dX2_oftenerIn_55 : decode cX2_oftenerIn 55 = .ok (.iload_n 3, 1) := by decide +kernel
theorem dX2_oftenerIn_56 : decode cX2_oftenerIn 56 = .ok (.ireturn, 1) := by decide +kernel
set_option maxRecDepth 20000 in
theorem ggX2_safestPlates_X2_isKept : GoodIn wsX2_safestPlates wsX2_isKept := goodIn_r _ [14, 15, 48, 49, 50, 51, 52, 53, 54, 55, 56, 57, 58, 59, 60] (by decide +kernel) (by decide +kernel)
set_option maxRecDepth 20000 in
theorem gX2_safestPlates_X2_isKept : GoodIn wsX2_safestPlates (wsV RX2 97 RX2 yX2_isKept wsX2_isKept) := goodIn_app (goodIn_of _ (by decide +kernel)) ggX2_safestPlates_X2_isKept
set_option maxRecDepth 20000 in
theorem ggX2_safestPlates_X4_standAll : GoodIn wsX2_safestPlates wsX4_standAll := goodIn_r _ [20, 21, 22, 23, 24, 25, 26, 27, 28, 29, 30, 31, 32, 33, 34, 35, 36, 61, 62, 63, 64, 65, 66, 67, 68, 69, 70] (by decide +kernel) (by decide +kernel)
set_option maxRecDepth 20000 in
theorem gX2_safestPlates_X4_standAll : GoodIn wsX2_safestPlates (wsV RX2 101 RX4 yX4_standAll wsX4_standAll) := goodIn_app (goodIn_of _ (by decide +kernel)) ggX2_safestPlates_X4_standAll
set_option maxRecDepth 20000 in
theorem ggX2_safestPlates_X4_mostHomes : GoodIn wsX2_safestPlates wsX4_mostHomes := goodIn_r _ [40, 41, 42, 43, 44, 45, 19, 46, 47, 61, 62, 63, 64] (by decide +kernel) (by decide +kernel)
set_option maxRecDepth 20000 in
theorem gX2_safestPlates_X4_mostHomes : GoodIn wsX2_safestPlates (wsV RX2 115 RX4 yX4_mostHomes wsX4_mostHomes) := goodIn_app (goodIn_of _ (by decide +kernel)) ggX2_safestPlates_X4_mostHomes
theorem dX2_safestPlates_0 : decode cX2_safestPlates 0 = .ok (.aload_n 0, 1) := by decide +kernel
theorem dX2_safestPlates_1 : decode cX2_safestPlates 1 = .ok (.getfield 29, 3) := by decide +kernel
theorem dX2_safestPlates_4 : decode cX2_safestPlates 4 = .ok (.bipush (-9), 2) := by decide +kernel
theorem dX2_safestPlates_6 : decode cX2_safestPlates 6 = .ok (.if_icmp .ne 105, 3) := by decide +kernel
theorem dX2_safestPlates_9 : decode cX2_safestPlates 9 = .ok (.iconst 0, 1) := by decide +kernel
theorem dX2_safestPlates_10 : decode cX2_safestPlates 10 = .ok (.istore_n 2, 1) := by decide +kernel
theorem dX2_safestPlates_11 : decode cX2_safestPlates 11 = .ok (.iload_n 2, 1) := by decide +kernel
theorem dX2_safestPlates_12 : decode cX2_safestPlates 12 = .ok (.bipush 16, 2) := by decide +kernel
theorem dX2_safestPlates_14 : decode cX2_safestPlates 14 = .ok (.if_icmp .ge 18, 3) := by decide +kernel
theorem dX2_safestPlates_17 : decode cX2_safestPlates 17 = .ok (.aload_n 0, 1) := by decide +kernel
theorem dX2_safestPlates_18 : decode cX2_safestPlates 18 = .ok (.getfield 22, 3) := by decide +kernel
theorem dX2_safestPlates_21 : decode cX2_safestPlates 21 = .ok (.iload_n 2, 1) := by decide +kernel
theorem dX2_safestPlates_22 : decode cX2_safestPlates 22 = .ok (.sipush 800, 3) := by decide +kernel
theorem dX2_safestPlates_25 : decode cX2_safestPlates 25 = .ok (.iastore, 1) := by decide +kernel
theorem dX2_safestPlates_26 : decode cX2_safestPlates 26 = .ok (.iinc 2 1, 3) := by decide +kernel
theorem dX2_safestPlates_29 : decode cX2_safestPlates 29 = .ok (.goto (-18), 3) := by decide +kernel
theorem dX2_safestPlates_32 : decode cX2_safestPlates 32 = .ok (.aload_n 0, 1) := by decide +kernel
theorem dX2_safestPlates_33 : decode cX2_safestPlates 33 = .ok (.getfield 91, 3) := by decide +kernel
theorem dX2_safestPlates_36 : decode cX2_safestPlates 36 = .ok (.istore_n 2, 1) := by decide +kernel
theorem dX2_safestPlates_37 : decode cX2_safestPlates 37 = .ok (.iload_n 2, 1) := by decide +kernel
theorem dX2_safestPlates_38 : decode cX2_safestPlates 38 = .ok (.aload_n 0, 1) := by decide +kernel
theorem dX2_safestPlates_39 : decode cX2_safestPlates 39 = .ok (.getfield 94, 3) := by decide +kernel
theorem dX2_safestPlates_42 : decode cX2_safestPlates 42 = .ok (.if_icmp .gt 57, 3) := by decide +kernel
theorem dX2_safestPlates_45 : decode cX2_safestPlates 45 = .ok (.aload_n 0, 1) := by decide +kernel
theorem dX2_safestPlates_46 : decode cX2_safestPlates 46 = .ok (.iload_n 2, 1) := by decide +kernel
theorem dX2_safestPlates_47 : decode cX2_safestPlates 47 = .ok (.invokevirtual 97, 3) := by decide +kernel
theorem dX2_safestPlates_50 : decode cX2_safestPlates 50 = .ok (.ifCond .eq 43, 3) := by decide +kernel
theorem dX2_safestPlates_53 : decode cX2_safestPlates 53 = .ok (.aload_n 1, 1) := by decide +kernel
theorem dX2_safestPlates_54 : decode cX2_safestPlates 54 = .ok (.iload_n 2, 1) := by decide +kernel
theorem dX2_safestPlates_55 : decode cX2_safestPlates 55 = .ok (.invokevirtual 101, 3) := by decide +kernel
theorem dX2_safestPlates_58 : decode cX2_safestPlates 58 = .ok (.iconst 0, 1) := by decide +kernel
theorem dX2_safestPlates_59 : decode cX2_safestPlates 59 = .ok (.istore_n 3, 1) := by decide +kernel
theorem dX2_safestPlates_60 : decode cX2_safestPlates 60 = .ok (.iload_n 3, 1) := by decide +kernel
theorem dX2_safestPlates_61 : decode cX2_safestPlates 61 = .ok (.bipush 16, 2) := by decide +kernel
theorem dX2_safestPlates_63 : decode cX2_safestPlates 63 = .ok (.if_icmp .ge 30, 3) := by decide +kernel
theorem dX2_safestPlates_66 : decode cX2_safestPlates 66 = .ok (.aload_n 0, 1) := by decide +kernel
theorem dX2_safestPlates_67 : decode cX2_safestPlates 67 = .ok (.getfield 22, 3) := by decide +kernel
theorem dX2_safestPlates_70 : decode cX2_safestPlates 70 = .ok (.iload_n 3, 1) := by decide +kernel
theorem dX2_safestPlates_71 : decode cX2_safestPlates 71 = .ok (.aload_n 0, 1) := by decide +kernel
theorem dX2_safestPlates_72 : decode cX2_safestPlates 72 = .ok (.getfield 22, 3) := by decide +kernel
theorem dX2_safestPlates_75 : decode cX2_safestPlates 75 = .ok (.iload_n 3, 1) := by decide +kernel
theorem dX2_safestPlates_76 : decode cX2_safestPlates 76 = .ok (.iaload, 1) := by decide +kernel
theorem dX2_safestPlates_77 : decode cX2_safestPlates 77 = .ok (.aload_n 1, 1) := by decide +kernel
theorem dX2_safestPlates_78 : decode cX2_safestPlates 78 = .ok (.getfield 107, 3) := by decide +kernel
theorem dX2_safestPlates_81 : decode cX2_safestPlates 81 = .ok (.iload_n 3, 1) := by decide +kernel
theorem dX2_safestPlates_82 : decode cX2_safestPlates 82 = .ok (.iaload, 1) := by decide +kernel
theorem dX2_safestPlates_83 : decode cX2_safestPlates 83 = .ok (.invokestatic 110, 3) := by decide +kernel
theorem dX2_safestPlates_86 : decode cX2_safestPlates 86 = .ok (.iastore, 1) := by decide +kernel
theorem dX2_safestPlates_87 : decode cX2_safestPlates 87 = .ok (.iinc 3 1, 3) := by decide +kernel
theorem dX2_safestPlates_90 : decode cX2_safestPlates 90 = .ok (.goto (-30), 3) := by decide +kernel
theorem dX2_safestPlates_93 : decode cX2_safestPlates 93 = .ok (.iinc 2 1, 3) := by decide +kernel
theorem dX2_safestPlates_96 : decode cX2_safestPlates 96 = .ok (.goto (-59), 3) := by decide +kernel
theorem dX2_safestPlates_99 : decode cX2_safestPlates 99 = .ok (.aload_n 0, 1) := by decide +kernel
theorem dX2_safestPlates_100 : decode cX2_safestPlates 100 = .ok (.aload_n 1, 1) := by decide +kernel
theorem dX2_safestPlates_101 : decode cX2_safestPlates 101 = .ok (.aload_n 0, 1) := by decide +kernel
theorem dX2_safestPlates_102 : decode cX2_safestPlates 102 = .ok (.getfield 22, 3) := by decide +kernel
theorem dX2_safestPlates_105 : decode cX2_safestPlates 105 = .ok (.invokevirtual 115, 3) := by decide +kernel
theorem dX2_safestPlates_108 : decode cX2_safestPlates 108 = .ok (.putfield 29, 3) := by decide +kernel
theorem dX2_safestPlates_111 : decode cX2_safestPlates 111 = .ok (.aload_n 0, 1) := by decide +kernel
theorem dX2_safestPlates_112 : decode cX2_safestPlates 112 = .ok (.getfield 29, 3) := by decide +kernel
theorem dX2_safestPlates_115 : decode cX2_safestPlates 115 = .ok (.ireturn, 1) := by decide +kernel
set_option maxRecDepth 20000 in
theorem ggX2_unlikeLaw_X4_bestFor : GoodIn wsX2_unlikeLaw wsX4_bestFor := goodIn_r _ [8, 9, 10, 11, 12, 7, 13, 14, 15, 16, 17, 18, 19, 20, 21, 22, 23, 24, 25, 26, 27, 28, 29, 30, 31, 32, 33, 34, 35, 36, 37, 38, 39, 59, 60, 61, 62, 63, 64, 65, 66, 67, 68] (by decide +kernel) (by decide +kernel)
set_option maxRecDepth 20000 in
theorem gX2_unlikeLaw_X4_bestFor : GoodIn wsX2_unlikeLaw (wsV RX2 119 RX4 yX4_bestFor wsX4_bestFor) := goodIn_app (goodIn_of _ (by decide +kernel)) ggX2_unlikeLaw_X4_bestFor
set_option maxRecDepth 20000 in
theorem ggX2_unlikeLaw_X2_isKept : GoodIn wsX2_unlikeLaw wsX2_isKept := goodIn_r _ [44, 45, 46, 47, 48, 49, 50, 51, 52, 53, 54, 55, 56, 57, 58] (by decide +kernel) (by decide +kernel)
set_option maxRecDepth 20000 in
theorem gX2_unlikeLaw_X2_isKept : GoodIn wsX2_unlikeLaw (wsV RX2 97 RX2 yX2_isKept wsX2_isKept) := goodIn_app (goodIn_of _ (by decide +kernel)) ggX2_unlikeLaw_X2_isKept
theorem dX2_unlikeLaw_0 : decode cX2_unlikeLaw 0 = .ok (.aload_n 0, 1) := by decide +kernel
theorem dX2_unlikeLaw_1 : decode cX2_unlikeLaw 1 = .ok (.getfield 33, 3) := by decide +kernel
theorem dX2_unlikeLaw_4 : decode cX2_unlikeLaw 4 = .ok (.bipush (-9), 2) := by decide +kernel
theorem dX2_unlikeLaw_6 : decode cX2_unlikeLaw 6 = .ok (.if_icmp .ne 70, 3) := by decide +kernel
theorem dX2_unlikeLaw_9 : decode cX2_unlikeLaw 9 = .ok (.aload_n 0, 1) := by decide +kernel
theorem dX2_unlikeLaw_10 : decode cX2_unlikeLaw 10 = .ok (.bipush (-4), 2) := by decide +kernel
theorem dX2_unlikeLaw_12 : decode cX2_unlikeLaw 12 = .ok (.putfield 33, 3) := by decide +kernel
theorem dX2_unlikeLaw_15 : decode cX2_unlikeLaw 15 = .ok (.aload_n 1, 1) := by decide +kernel
theorem dX2_unlikeLaw_16 : decode cX2_unlikeLaw 16 = .ok (.aload_n 0, 1) := by decide +kernel
theorem dX2_unlikeLaw_17 : decode cX2_unlikeLaw 17 = .ok (.getfield 91, 3) := by decide +kernel
theorem dX2_unlikeLaw_20 : decode cX2_unlikeLaw 20 = .ok (.invokevirtual 119, 3) := by decide +kernel
theorem dX2_unlikeLaw_23 : decode cX2_unlikeLaw 23 = .ok (.istore_n 2, 1) := by decide +kernel
theorem dX2_unlikeLaw_24 : decode cX2_unlikeLaw 24 = .ok (.aload_n 0, 1) := by decide +kernel
theorem dX2_unlikeLaw_25 : decode cX2_unlikeLaw 25 = .ok (.getfield 91, 3) := by decide +kernel
theorem dX2_unlikeLaw_28 : decode cX2_unlikeLaw 28 = .ok (.iconst 1, 1) := by decide +kernel
theorem dX2_unlikeLaw_29 : decode cX2_unlikeLaw 29 = .ok (.iadd, 1) := by decide +kernel
theorem dX2_unlikeLaw_30 : decode cX2_unlikeLaw 30 = .ok (.istore_n 3, 1) := by decide +kernel
theorem dX2_unlikeLaw_31 : decode cX2_unlikeLaw 31 = .ok (.iload_n 3, 1) := by decide +kernel
theorem dX2_unlikeLaw_32 : decode cX2_unlikeLaw 32 = .ok (.aload_n 0, 1) := by decide +kernel
theorem dX2_unlikeLaw_33 : decode cX2_unlikeLaw 33 = .ok (.getfield 94, 3) := by decide +kernel
theorem dX2_unlikeLaw_36 : decode cX2_unlikeLaw 36 = .ok (.if_icmp .gt 40, 3) := by decide +kernel
theorem dX2_unlikeLaw_39 : decode cX2_unlikeLaw 39 = .ok (.aload_n 0, 1) := by decide +kernel
theorem dX2_unlikeLaw_40 : decode cX2_unlikeLaw 40 = .ok (.getfield 33, 3) := by decide +kernel
theorem dX2_unlikeLaw_43 : decode cX2_unlikeLaw 43 = .ok (.bipush (-4), 2) := by decide +kernel
theorem dX2_unlikeLaw_45 : decode cX2_unlikeLaw 45 = .ok (.if_icmp .ne 31, 3) := by decide +kernel
theorem dX2_unlikeLaw_48 : decode cX2_unlikeLaw 48 = .ok (.aload_n 0, 1) := by decide +kernel
theorem dX2_unlikeLaw_49 : decode cX2_unlikeLaw 49 = .ok (.iload_n 3, 1) := by decide +kernel
theorem dX2_unlikeLaw_50 : decode cX2_unlikeLaw 50 = .ok (.invokevirtual 97, 3) := by decide +kernel
theorem dX2_unlikeLaw_53 : decode cX2_unlikeLaw 53 = .ok (.ifCond .eq 17, 3) := by decide +kernel
theorem dX2_unlikeLaw_56 : decode cX2_unlikeLaw 56 = .ok (.aload_n 1, 1) := by decide +kernel
theorem dX2_unlikeLaw_57 : decode cX2_unlikeLaw 57 = .ok (.iload_n 3, 1) := by decide +kernel
theorem dX2_unlikeLaw_58 : decode cX2_unlikeLaw 58 = .ok (.invokevirtual 119, 3) := by decide +kernel
theorem dX2_unlikeLaw_61 : decode cX2_unlikeLaw 61 = .ok (.iload_n 2, 1) := by decide +kernel
theorem dX2_unlikeLaw_62 : decode cX2_unlikeLaw 62 = .ok (.if_icmp .eq 8, 3) := by decide +kernel
theorem dX2_unlikeLaw_65 : decode cX2_unlikeLaw 65 = .ok (.aload_n 0, 1) := by decide +kernel
theorem dX2_unlikeLaw_66 : decode cX2_unlikeLaw 66 = .ok (.iload_n 3, 1) := by decide +kernel
theorem dX2_unlikeLaw_67 : decode cX2_unlikeLaw 67 = .ok (.putfield 33, 3) := by decide +kernel
theorem dX2_unlikeLaw_70 : decode cX2_unlikeLaw 70 = .ok (.iinc 3 1, 3) := by decide +kernel
theorem dX2_unlikeLaw_73 : decode cX2_unlikeLaw 73 = .ok (.goto (-42), 3) := by decide +kernel
theorem dX2_unlikeLaw_76 : decode cX2_unlikeLaw 76 = .ok (.aload_n 0, 1) := by decide +kernel
theorem dX2_unlikeLaw_77 : decode cX2_unlikeLaw 77 = .ok (.getfield 33, 3) := by decide +kernel
theorem dX2_unlikeLaw_80 : decode cX2_unlikeLaw 80 = .ok (.ireturn, 1) := by decide +kernel
set_option maxRecDepth 20000 in
theorem ggX2_homesAreNear_X3_sorties : GoodIn wsX2_homesAreNear wsX3_sorties := goodIn_r _ [12, 13, 48, 49, 50, 51] (by decide +kernel) (by decide +kernel)
set_option maxRecDepth 20000 in
theorem gX2_homesAreNear_X3_sorties : GoodIn wsX2_homesAreNear (wsV RX2 122 RX3 yX3_sorties wsX3_sorties) := goodIn_app (goodIn_of _ (by decide +kernel)) ggX2_homesAreNear_X3_sorties
set_option maxRecDepth 20000 in
theorem ggX2_homesAreNear_X8_homesTop : GoodIn wsX2_homesAreNear wsX8_homesTop := goodIn_r _ [18, 19, 20, 21, 22, 23, 17, 24, 42, 43, 44, 45, 46, 47] (by decide +kernel) (by decide +kernel)
set_option maxRecDepth 20000 in
theorem gX2_homesAreNear_X8_homesTop : GoodIn wsX2_homesAreNear (wsV RX2 128 RX8 yX8_homesTop wsX8_homesTop) := goodIn_app (goodIn_of _ (by decide +kernel)) ggX2_homesAreNear_X8_homesTop
set_option maxRecDepth 20000 in
theorem ggX2_homesAreNear_X3_withHoles : GoodIn wsX2_homesAreNear wsX3_withHoles := goodIn_r _ [28, 13, 48, 49, 50, 51] (by decide +kernel) (by decide +kernel)
set_option maxRecDepth 20000 in
theorem gX2_homesAreNear_X3_withHoles : GoodIn wsX2_homesAreNear (wsV RX2 132 RX3 yX3_withHoles wsX3_withHoles) := goodIn_app (goodIn_of _ (by decide +kernel)) ggX2_homesAreNear_X3_withHoles
theorem dX2_homesAreNear_0 : decode cX2_homesAreNear 0 = .ok (.iconst 0, 1) := by decide +kernel
theorem dX2_homesAreNear_1 : decode cX2_homesAreNear 1 = .ok (.istore_n 3, 1) := by decide +kernel
theorem dX2_homesAreNear_2 : decode cX2_homesAreNear 2 = .ok (.iload_n 3, 1) := by decide +kernel
theorem dX2_homesAreNear_3 : decode cX2_homesAreNear 3 = .ok (.iconst 3, 1) := by decide +kernel
theorem dX2_homesAreNear_4 : decode cX2_homesAreNear 4 = .ok (.if_icmp .gt 69, 3) := by decide +kernel
theorem dX2_homesAreNear_7 : decode cX2_homesAreNear 7 = .ok (.aload_n 0, 1) := by decide +kernel
theorem dX2_homesAreNear_8 : decode cX2_homesAreNear 8 = .ok (.getfield 40, 3) := by decide +kernel
theorem dX2_homesAreNear_11 : decode cX2_homesAreNear 11 = .ok (.invokevirtual 122, 3) := by decide +kernel
theorem dX2_homesAreNear_14 : decode cX2_homesAreNear 14 = .ok (.i2l, 1) := by decide +kernel
theorem dX2_homesAreNear_15 : decode cX2_homesAreNear 15 = .ok (.aload_n 0, 1) := by decide +kernel
theorem dX2_homesAreNear_16 : decode cX2_homesAreNear 16 = .ok (.getfield 36, 3) := by decide +kernel
theorem dX2_homesAreNear_19 : decode cX2_homesAreNear 19 = .ok (.iload_n 3, 1) := by decide +kernel
theorem dX2_homesAreNear_20 : decode cX2_homesAreNear 20 = .ok (.iload_n 1, 1) := by decide +kernel
theorem dX2_homesAreNear_21 : decode cX2_homesAreNear 21 = .ok (.i2l, 1) := by decide +kernel
theorem dX2_homesAreNear_22 : decode cX2_homesAreNear 22 = .ok (.invokevirtual 128, 3) := by decide +kernel
theorem dX2_homesAreNear_25 : decode cX2_homesAreNear 25 = .ok (.lmul, 1) := by decide +kernel
theorem dX2_homesAreNear_26 : decode cX2_homesAreNear 26 = .ok (.lstore 4, 2) := by decide +kernel
theorem dX2_homesAreNear_28 : decode cX2_homesAreNear 28 = .ok (.lload 4, 2) := by decide +kernel
theorem dX2_homesAreNear_30 : decode cX2_homesAreNear 30 = .ok (.aload_n 0, 1) := by decide +kernel
theorem dX2_homesAreNear_31 : decode cX2_homesAreNear 31 = .ok (.getfield 40, 3) := by decide +kernel
theorem dX2_homesAreNear_34 : decode cX2_homesAreNear 34 = .ok (.iload_n 3, 1) := by decide +kernel
theorem dX2_homesAreNear_35 : decode cX2_homesAreNear 35 = .ok (.invokevirtual 132, 3) := by decide +kernel
theorem dX2_homesAreNear_38 : decode cX2_homesAreNear 38 = .ok (.i2l, 1) := by decide +kernel
theorem dX2_homesAreNear_39 : decode cX2_homesAreNear 39 = .ok (.aload_n 0, 1) := by decide +kernel
theorem dX2_homesAreNear_40 : decode cX2_homesAreNear 40 = .ok (.getfield 36, 3) := by decide +kernel
theorem dX2_homesAreNear_43 : decode cX2_homesAreNear 43 = .ok (.getfield 135, 3) := by decide +kernel
theorem dX2_homesAreNear_46 : decode cX2_homesAreNear 46 = .ok (.lmul, 1) := by decide +kernel
theorem dX2_homesAreNear_47 : decode cX2_homesAreNear 47 = .ok (.lsub, 1) := by decide +kernel
theorem dX2_homesAreNear_48 : decode cX2_homesAreNear 48 = .ok (.invokestatic 139, 3) := by decide +kernel
theorem dX2_homesAreNear_51 : decode cX2_homesAreNear 51 = .ok (.iload_n 2, 1) := by decide +kernel
theorem dX2_homesAreNear_52 : decode cX2_homesAreNear 52 = .ok (.i2l, 1) := by decide +kernel
theorem dX2_homesAreNear_53 : decode cX2_homesAreNear 53 = .ok (.aload_n 0, 1) := by decide +kernel
theorem dX2_homesAreNear_54 : decode cX2_homesAreNear 54 = .ok (.getfield 36, 3) := by decide +kernel
theorem dX2_homesAreNear_57 : decode cX2_homesAreNear 57 = .ok (.getfield 135, 3) := by decide +kernel
theorem dX2_homesAreNear_60 : decode cX2_homesAreNear 60 = .ok (.lmul, 1) := by decide +kernel
theorem dX2_homesAreNear_61 : decode cX2_homesAreNear 61 = .ok (.lcmp, 1) := by decide +kernel
theorem dX2_homesAreNear_62 : decode cX2_homesAreNear 62 = .ok (.ifCond .le 5, 3) := by decide +kernel
theorem dX2_homesAreNear_65 : decode cX2_homesAreNear 65 = .ok (.iconst 0, 1) := by decide +kernel
theorem dX2_homesAreNear_66 : decode cX2_homesAreNear 66 = .ok (.ireturn, 1) := by decide +kernel
theorem dX2_homesAreNear_67 : decode cX2_homesAreNear 67 = .ok (.iinc 3 1, 3) := by decide +kernel
theorem dX2_homesAreNear_70 : decode cX2_homesAreNear 70 = .ok (.goto (-68), 3) := by decide +kernel
theorem dX2_homesAreNear_73 : decode cX2_homesAreNear 73 = .ok (.iconst 1, 1) := by decide +kernel
theorem dX2_homesAreNear_74 : decode cX2_homesAreNear 74 = .ok (.ireturn, 1) := by decide +kernel
set_option maxRecDepth 20000 in
theorem ggX2_holesAreNear_X3_sorties : GoodIn wsX2_holesAreNear wsX3_sorties := goodIn_r _ [12, 13, 43, 44, 45, 46] (by decide +kernel) (by decide +kernel)
set_option maxRecDepth 20000 in
theorem gX2_holesAreNear_X3_sorties : GoodIn wsX2_holesAreNear (wsV RX2 122 RX3 yX3_sorties wsX3_sorties) := goodIn_app (goodIn_of _ (by decide +kernel)) ggX2_holesAreNear_X3_sorties
set_option maxRecDepth 20000 in
theorem ggX2_holesAreNear_X8_partStand : GoodIn wsX2_holesAreNear wsX8_partStand := goodIn_r _ [18, 19, 37, 38, 39, 40, 41, 42] (by decide +kernel) (by decide +kernel)
set_option maxRecDepth 20000 in
theorem gX2_holesAreNear_X8_partStand : GoodIn wsX2_holesAreNear (wsV RX2 142 RX8 yX8_partStand wsX8_partStand) := goodIn_app (goodIn_of _ (by decide +kernel)) ggX2_holesAreNear_X8_partStand
set_option maxRecDepth 20000 in
theorem ggX2_holesAreNear_X3_inPart : GoodIn wsX2_holesAreNear wsX3_inPart := goodIn_r _ [23, 13, 43, 44, 45, 46] (by decide +kernel) (by decide +kernel)
set_option maxRecDepth 20000 in
theorem gX2_holesAreNear_X3_inPart : GoodIn wsX2_holesAreNear (wsV RX2 145 RX3 yX3_inPart wsX3_inPart) := goodIn_app (goodIn_of _ (by decide +kernel)) ggX2_holesAreNear_X3_inPart
theorem dX2_holesAreNear_0 : decode cX2_holesAreNear 0 = .ok (.aload_n 0, 1) := by decide +kernel
theorem dX2_holesAreNear_1 : decode cX2_holesAreNear 1 = .ok (.getfield 40, 3) := by decide +kernel
theorem dX2_holesAreNear_4 : decode cX2_holesAreNear 4 = .ok (.invokevirtual 122, 3) := by decide +kernel
theorem dX2_holesAreNear_7 : decode cX2_holesAreNear 7 = .ok (.i2l, 1) := by decide +kernel
theorem dX2_holesAreNear_8 : decode cX2_holesAreNear 8 = .ok (.aload_n 0, 1) := by decide +kernel
theorem dX2_holesAreNear_9 : decode cX2_holesAreNear 9 = .ok (.getfield 36, 3) := by decide +kernel
theorem dX2_holesAreNear_12 : decode cX2_holesAreNear 12 = .ok (.iload_n 1, 1) := by decide +kernel
theorem dX2_holesAreNear_13 : decode cX2_holesAreNear 13 = .ok (.iload_n 2, 1) := by decide +kernel
theorem dX2_holesAreNear_14 : decode cX2_holesAreNear 14 = .ok (.invokevirtual 142, 3) := by decide +kernel
theorem dX2_holesAreNear_17 : decode cX2_holesAreNear 17 = .ok (.i2l, 1) := by decide +kernel
theorem dX2_holesAreNear_18 : decode cX2_holesAreNear 18 = .ok (.lload_n 3, 1) := by decide +kernel
theorem dX2_holesAreNear_19 : decode cX2_holesAreNear 19 = .ok (.lmul, 1) := by decide +kernel
theorem dX2_holesAreNear_20 : decode cX2_holesAreNear 20 = .ok (.lmul, 1) := by decide +kernel
theorem dX2_holesAreNear_21 : decode cX2_holesAreNear 21 = .ok (.lstore 6, 2) := by decide +kernel
theorem dX2_holesAreNear_23 : decode cX2_holesAreNear 23 = .ok (.lload 6, 2) := by decide +kernel
theorem dX2_holesAreNear_25 : decode cX2_holesAreNear 25 = .ok (.aload_n 0, 1) := by decide +kernel
theorem dX2_holesAreNear_26 : decode cX2_holesAreNear 26 = .ok (.getfield 40, 3) := by decide +kernel
theorem dX2_holesAreNear_29 : decode cX2_holesAreNear 29 = .ok (.iload_n 1, 1) := by decide +kernel
theorem dX2_holesAreNear_30 : decode cX2_holesAreNear 30 = .ok (.invokevirtual 145, 3) := by decide +kernel
theorem dX2_holesAreNear_33 : decode cX2_holesAreNear 33 = .ok (.i2l, 1) := by decide +kernel
theorem dX2_holesAreNear_34 : decode cX2_holesAreNear 34 = .ok (.aload_n 0, 1) := by decide +kernel
theorem dX2_holesAreNear_35 : decode cX2_holesAreNear 35 = .ok (.getfield 36, 3) := by decide +kernel
theorem dX2_holesAreNear_38 : decode cX2_holesAreNear 38 = .ok (.getfield 135, 3) := by decide +kernel
theorem dX2_holesAreNear_41 : decode cX2_holesAreNear 41 = .ok (.lmul, 1) := by decide +kernel
theorem dX2_holesAreNear_42 : decode cX2_holesAreNear 42 = .ok (.lsub, 1) := by decide +kernel
theorem dX2_holesAreNear_43 : decode cX2_holesAreNear 43 = .ok (.invokestatic 139, 3) := by decide +kernel
theorem dX2_holesAreNear_46 : decode cX2_holesAreNear 46 = .ok (.iload 5, 2) := by decide +kernel
theorem dX2_holesAreNear_48 : decode cX2_holesAreNear 48 = .ok (.i2l, 1) := by decide +kernel
theorem dX2_holesAreNear_49 : decode cX2_holesAreNear 49 = .ok (.aload_n 0, 1) := by decide +kernel
theorem dX2_holesAreNear_50 : decode cX2_holesAreNear 50 = .ok (.getfield 36, 3) := by decide +kernel
theorem dX2_holesAreNear_53 : decode cX2_holesAreNear 53 = .ok (.getfield 135, 3) := by decide +kernel
theorem dX2_holesAreNear_56 : decode cX2_holesAreNear 56 = .ok (.lmul, 1) := by decide +kernel
theorem dX2_holesAreNear_57 : decode cX2_holesAreNear 57 = .ok (.lcmp, 1) := by decide +kernel
theorem dX2_holesAreNear_58 : decode cX2_holesAreNear 58 = .ok (.ifCond .gt 7, 3) := by decide +kernel
theorem dX2_holesAreNear_61 : decode cX2_holesAreNear 61 = .ok (.iconst 1, 1) := by decide +kernel
theorem dX2_holesAreNear_62 : decode cX2_holesAreNear 62 = .ok (.goto 4, 3) := by decide +kernel
theorem dX2_holesAreNear_65 : decode cX2_holesAreNear 65 = .ok (.iconst 0, 1) := by decide +kernel
theorem dX2_holesAreNear_66 : decode cX2_holesAreNear 66 = .ok (.ireturn, 1) := by decide +kernel
set_option maxRecDepth 20000 in
theorem ggX2_settleStands_X2_homesAreNear : GoodIn wsX2_settleStands wsX2_homesAreNear := goodIn_r _ [10, 11, 1, 12, 13, 14, 15, 16, 17, 18, 19, 20, 21, 22, 23, 24, 25, 26, 27, 28, 29, 30, 31, 32, 33, 34, 35, 36, 37, 42, 43, 44, 45, 46, 47, 48, 49, 50, 51, 52, 53, 54, 55, 56, 57, 58, 59, 60, 61, 62, 63, 64] (by decide +kernel) (by decide +kernel)
set_option maxRecDepth 20000 in
theorem gX2_settleStands_X2_homesAreNear : GoodIn wsX2_settleStands (wsV RX2 64 RX2 yX2_homesAreNear wsX2_homesAreNear) := goodIn_app (goodIn_of _ (by decide +kernel)) ggX2_settleStands_X2_homesAreNear
set_option maxRecDepth 20000 in
theorem ggX2_settleStands_X8_holeRate : GoodIn wsX2_settleStands wsX8_holeRate := goodIn_r _ [41, 28, 29, 30, 31, 32, 26, 33, 55, 56, 57, 58, 59, 60] (by decide +kernel) (by decide +kernel)
set_option maxRecDepth 20000 in
theorem gX2_settleStands_X8_holeRate : GoodIn wsX2_settleStands (wsV RX2 67 RX8 yX8_holeRate wsX8_holeRate) := goodIn_app (goodIn_of _ (by decide +kernel)) ggX2_settleStands_X8_holeRate
theorem dX2_settleStands_0 : decode cX2_settleStands 0 = .ok (.aload_n 0, 1) := by decide +kernel
theorem dX2_settleStands_1 : decode cX2_settleStands 1 = .ok (.getfield 36, 3) := by decide +kernel
theorem dX2_settleStands_4 : decode cX2_settleStands 4 = .ok (.getfield 148, 3) := by decide +kernel
theorem dX2_settleStands_7 : decode cX2_settleStands 7 = .ok (.iconst 5, 1) := by decide +kernel
theorem dX2_settleStands_8 : decode cX2_settleStands 8 = .ok (.iaload, 1) := by decide +kernel
theorem dX2_settleStands_9 : decode cX2_settleStands 9 = .ok (.istore_n 1, 1) := by decide +kernel
theorem dX2_settleStands_10 : decode cX2_settleStands 10 = .ok (.iconst 0, 1) := by decide +kernel
theorem dX2_settleStands_11 : decode cX2_settleStands 11 = .ok (.istore_n 2, 1) := by decide +kernel
theorem dX2_settleStands_12 : decode cX2_settleStands 12 = .ok (.iload_n 2, 1) := by decide +kernel
theorem dX2_settleStands_13 : decode cX2_settleStands 13 = .ok (.sipush 800, 3) := by decide +kernel
theorem dX2_settleStands_16 : decode cX2_settleStands 16 = .ok (.if_icmp .gt 52, 3) := by decide +kernel
theorem dX2_settleStands_19 : decode cX2_settleStands 19 = .ok (.iload_n 2, 1) := by decide +kernel
theorem dX2_settleStands_20 : decode cX2_settleStands 20 = .ok (.i2l, 1) := by decide +kernel
theorem dX2_settleStands_21 : decode cX2_settleStands 21 = .ok (.aload_n 0, 1) := by decide +kernel
theorem dX2_settleStands_22 : decode cX2_settleStands 22 = .ok (.getfield 36, 3) := by decide +kernel
theorem dX2_settleStands_25 : decode cX2_settleStands 25 = .ok (.getfield 151, 3) := by decide +kernel
theorem dX2_settleStands_28 : decode cX2_settleStands 28 = .ok (.lcmp, 1) := by decide +kernel
theorem dX2_settleStands_29 : decode cX2_settleStands 29 = .ok (.ifCond .gt 39, 3) := by decide +kernel
theorem dX2_settleStands_32 : decode cX2_settleStands 32 = .ok (.aload_n 0, 1) := by decide +kernel
theorem dX2_settleStands_33 : decode cX2_settleStands 33 = .ok (.getfield 15, 3) := by decide +kernel
theorem dX2_settleStands_36 : decode cX2_settleStands 36 = .ok (.iload_n 2, 1) := by decide +kernel
theorem dX2_settleStands_37 : decode cX2_settleStands 37 = .ok (.aload_n 0, 1) := by decide +kernel
theorem dX2_settleStands_38 : decode cX2_settleStands 38 = .ok (.iload_n 2, 1) := by decide +kernel
theorem dX2_settleStands_39 : decode cX2_settleStands 39 = .ok (.iload_n 1, 1) := by decide +kernel
theorem dX2_settleStands_40 : decode cX2_settleStands 40 = .ok (.invokevirtual 64, 3) := by decide +kernel
theorem dX2_settleStands_43 : decode cX2_settleStands 43 = .ok (.ifCond .eq 15, 3) := by decide +kernel
theorem dX2_settleStands_46 : decode cX2_settleStands 46 = .ok (.aload_n 0, 1) := by decide +kernel
theorem dX2_settleStands_47 : decode cX2_settleStands 47 = .ok (.getfield 36, 3) := by decide +kernel
theorem dX2_settleStands_50 : decode cX2_settleStands 50 = .ok (.iload_n 2, 1) := by decide +kernel
theorem dX2_settleStands_51 : decode cX2_settleStands 51 = .ok (.i2l, 1) := by decide +kernel
theorem dX2_settleStands_52 : decode cX2_settleStands 52 = .ok (.invokevirtual 67, 3) := by decide +kernel
theorem dX2_settleStands_55 : decode cX2_settleStands 55 = .ok (.goto 6, 3) := by decide +kernel
theorem dX2_settleStands_58 : decode cX2_settleStands 58 = .ok (.ldc2_w 154, 3) := by decide +kernel
theorem dX2_settleStands_61 : decode cX2_settleStands 61 = .ok (.lastore, 1) := by decide +kernel
theorem dX2_settleStands_62 : decode cX2_settleStands 62 = .ok (.iinc 2 1, 3) := by decide +kernel
theorem dX2_settleStands_65 : decode cX2_settleStands 65 = .ok (.goto (-53), 3) := by decide +kernel
theorem dX2_settleStands_68 : decode cX2_settleStands 68 = .ok (.return_, 1) := by decide +kernel
set_option maxRecDepth 20000 in
theorem ggX2_gather_X2_keepNone : GoodIn wsX2_gather wsX2_keepNone := goodIn_r _ [6, 7, 8, 9, 10, 11, 68, 69, 70, 71, 72, 73, 74, 75, 76, 77, 78, 79, 80] (by decide +kernel) (by decide +kernel)
set_option maxRecDepth 20000 in
theorem gX2_gather_X2_keepNone : GoodIn wsX2_gather (wsV RX2 156 RX2 yX2_keepNone wsX2_keepNone) := goodIn_app (goodIn_of _ (by decide +kernel)) ggX2_gather_X2_keepNone
set_option maxRecDepth 20000 in
theorem ggX2_gather_X0_allows : GoodIn wsX2_gather wsX0_allows := goodIn_r _ [16, 17, 18, 19, 20, 21, 22, 23, 24, 25, 26, 81, 82, 83] (by decide +kernel) (by decide +kernel)
set_option maxRecDepth 20000 in
theorem gX2_gather_X0_allows : GoodIn wsX2_gather (wsV RX2 52 RX0 yX0_allows wsX0_allows) := goodIn_app (goodIn_of _ (by decide +kernel)) ggX2_gather_X0_allows
set_option maxRecDepth 20000 in
theorem ggX2_gather_X2_gatherWith : GoodIn wsX2_gather wsX2_gatherWith := goodIn_r _ [30, 31, 1, 32, 33, 34, 35, 36, 37, 38, 39, 12, 13, 14, 15, 16, 17, 18, 19, 20, 21, 22, 23, 24, 25, 26, 40, 41, 42, 5, 43, 44, 45, 46, 47, 48, 49, 50, 51, 52, 53, 54, 55, 56, 57, 58, 59, 60, 61, 62, 63, 64, 65, 66, 67, 7, 8, 9, 10, 11, 68, 69, 70, 71, 72, 73, 74, 75, 76, 77, 78, 79, 80, 84, 85, 86, 87, 88, 89, 81, 82, 83, 90, 91, 92, 93] (by decide +kernel) (by decide +kernel)
set_option maxRecDepth 20000 in
theorem gX2_gather_X2_gatherWith : GoodIn wsX2_gather (wsV RX2 159 RX2 yX2_gatherWith wsX2_gatherWith) := goodIn_app (goodIn_of _ (by decide +kernel)) ggX2_gather_X2_gatherWith
theorem dX2_gather_0 : decode cX2_gather 0 = .ok (.aload_n 0, 1) := by decide +kernel
theorem dX2_gather_1 : decode cX2_gather 1 = .ok (.invokevirtual 156, 3) := by decide +kernel
theorem dX2_gather_4 : decode cX2_gather 4 = .ok (.iconst 0, 1) := by decide +kernel
theorem dX2_gather_5 : decode cX2_gather 5 = .ok (.istore_n 1, 1) := by decide +kernel
theorem dX2_gather_6 : decode cX2_gather 6 = .ok (.iload_n 1, 1) := by decide +kernel
theorem dX2_gather_7 : decode cX2_gather 7 = .ok (.bipush 10, 2) := by decide +kernel
theorem dX2_gather_9 : decode cX2_gather 9 = .ok (.if_icmp .gt 53, 3) := by decide +kernel
theorem dX2_gather_12 : decode cX2_gather 12 = .ok (.iconst 0, 1) := by decide +kernel
theorem dX2_gather_13 : decode cX2_gather 13 = .ok (.istore_n 2, 1) := by decide +kernel
theorem dX2_gather_14 : decode cX2_gather 14 = .ok (.iload_n 2, 1) := by decide +kernel
theorem dX2_gather_15 : decode cX2_gather 15 = .ok (.bipush 10, 2) := by decide +kernel
theorem dX2_gather_17 : decode cX2_gather 17 = .ok (.if_icmp .gt 39, 3) := by decide +kernel
theorem dX2_gather_20 : decode cX2_gather 20 = .ok (.aload_n 0, 1) := by decide +kernel
theorem dX2_gather_21 : decode cX2_gather 21 = .ok (.getfield 44, 3) := by decide +kernel
theorem dX2_gather_24 : decode cX2_gather 24 = .ok (.iconst 0, 1) := by decide +kernel
theorem dX2_gather_25 : decode cX2_gather 25 = .ok (.iload_n 1, 1) := by decide +kernel
theorem dX2_gather_26 : decode cX2_gather 26 = .ok (.invokevirtual 52, 3) := by decide +kernel
theorem dX2_gather_29 : decode cX2_gather 29 = .ok (.ifCond .eq 21, 3) := by decide +kernel
theorem dX2_gather_32 : decode cX2_gather 32 = .ok (.aload_n 0, 1) := by decide +kernel
theorem dX2_gather_33 : decode cX2_gather 33 = .ok (.getfield 44, 3) := by decide +kernel
theorem dX2_gather_36 : decode cX2_gather 36 = .ok (.iconst 1, 1) := by decide +kernel
theorem dX2_gather_37 : decode cX2_gather 37 = .ok (.iload_n 2, 1) := by decide +kernel
theorem dX2_gather_38 : decode cX2_gather 38 = .ok (.invokevirtual 52, 3) := by decide +kernel
theorem dX2_gather_41 : decode cX2_gather 41 = .ok (.ifCond .eq 9, 3) := by decide +kernel
theorem dX2_gather_44 : decode cX2_gather 44 = .ok (.aload_n 0, 1) := by decide +kernel
theorem dX2_gather_45 : decode cX2_gather 45 = .ok (.iload_n 1, 1) := by decide +kernel
theorem dX2_gather_46 : decode cX2_gather 46 = .ok (.iload_n 2, 1) := by decide +kernel
theorem dX2_gather_47 : decode cX2_gather 47 = .ok (.invokevirtual 159, 3) := by decide +kernel
theorem dX2_gather_50 : decode cX2_gather 50 = .ok (.iinc 2 1, 3) := by decide +kernel
theorem dX2_gather_53 : decode cX2_gather 53 = .ok (.goto (-39), 3) := by decide +kernel
theorem dX2_gather_56 : decode cX2_gather 56 = .ok (.iinc 1 1, 3) := by decide +kernel
theorem dX2_gather_59 : decode cX2_gather 59 = .ok (.goto (-53), 3) := by decide +kernel
theorem dX2_gather_62 : decode cX2_gather 62 = .ok (.return_, 1) := by decide +kernel
set_option maxRecDepth 20000 in
theorem ggX2_gatherWith_X8_partStand : GoodIn wsX2_gatherWith wsX8_partStand := goodIn_r _ [9, 10, 73, 74, 75, 76, 77, 78] (by decide +kernel) (by decide +kernel)
set_option maxRecDepth 20000 in
theorem gX2_gatherWith_X8_partStand : GoodIn wsX2_gatherWith (wsV RX2 142 RX8 yX8_partStand wsX8_partStand) := goodIn_app (goodIn_of _ (by decide +kernel)) ggX2_gatherWith_X8_partStand
set_option maxRecDepth 20000 in
theorem ggX2_gatherWith_X0_allows : GoodIn wsX2_gatherWith wsX0_allows := goodIn_r _ [15, 16, 17, 18, 19, 20, 21, 22, 23, 24, 25, 79, 80, 81] (by decide +kernel) (by decide +kernel)
set_option maxRecDepth 20000 in
theorem gX2_gatherWith_X0_allows : GoodIn wsX2_gatherWith (wsV RX2 52 RX0 yX0_allows wsX0_allows) := goodIn_app (goodIn_of _ (by decide +kernel)) ggX2_gatherWith_X0_allows
set_option maxRecDepth 20000 in
theorem ggX2_gatherWith_X2_allHolesAreNear : GoodIn wsX2_gatherWith wsX2_allHolesAreNear := goodIn_r _ [30, 1, 31, 32, 33, 34, 29, 35, 36, 37, 38, 39, 24, 40, 41, 42, 43, 44, 45, 46, 5, 6, 7, 8, 9, 10, 47, 48, 49, 50, 60, 61, 62, 63, 64, 65, 66, 67, 68, 69, 70, 71, 72, 73, 74, 75, 76, 77, 78, 82, 83, 84, 85] (by decide +kernel) (by decide +kernel)
set_option maxRecDepth 20000 in
theorem gX2_gatherWith_X2_allHolesAreNear : GoodIn wsX2_gatherWith (wsV RX2 163 RX2 yX2_allHolesAreNear wsX2_allHolesAreNear) := goodIn_app (goodIn_of _ (by decide +kernel)) ggX2_gatherWith_X2_allHolesAreNear
set_option maxRecDepth 20000 in
theorem ggX2_gatherWith_X2_keep : GoodIn wsX2_gatherWith wsX2_keep := goodIn_r _ [54, 55, 56, 57, 58, 59, 60, 61, 62, 63, 64, 65, 66, 67, 68, 69, 70, 71, 72] (by decide +kernel) (by decide +kernel)
set_option maxRecDepth 20000 in
theorem gX2_gatherWith_X2_keep : GoodIn wsX2_gatherWith (wsV RX2 167 RX2 yX2_keep wsX2_keep) := goodIn_app (goodIn_of _ (by decide +kernel)) ggX2_gatherWith_X2_keep
theorem dX2_gatherWith_0 : decode cX2_gatherWith 0 = .ok (.aload_n 0, 1) := by decide +kernel
theorem dX2_gatherWith_1 : decode cX2_gatherWith 1 = .ok (.getfield 36, 3) := by decide +kernel
theorem dX2_gatherWith_4 : decode cX2_gatherWith 4 = .ok (.iconst 0, 1) := by decide +kernel
theorem dX2_gatherWith_5 : decode cX2_gatherWith 5 = .ok (.iload_n 1, 1) := by decide +kernel
theorem dX2_gatherWith_6 : decode cX2_gatherWith 6 = .ok (.invokevirtual 142, 3) := by decide +kernel
theorem dX2_gatherWith_9 : decode cX2_gatherWith 9 = .ok (.aload_n 0, 1) := by decide +kernel
theorem dX2_gatherWith_10 : decode cX2_gatherWith 10 = .ok (.getfield 36, 3) := by decide +kernel
theorem dX2_gatherWith_13 : decode cX2_gatherWith 13 = .ok (.iconst 1, 1) := by decide +kernel
theorem dX2_gatherWith_14 : decode cX2_gatherWith 14 = .ok (.iload_n 2, 1) := by decide +kernel
theorem dX2_gatherWith_15 : decode cX2_gatherWith 15 = .ok (.invokevirtual 142, 3) := by decide +kernel
theorem dX2_gatherWith_18 : decode cX2_gatherWith 18 = .ok (.iadd, 1) := by decide +kernel
theorem dX2_gatherWith_19 : decode cX2_gatherWith 19 = .ok (.istore_n 3, 1) := by decide +kernel
theorem dX2_gatherWith_20 : decode cX2_gatherWith 20 = .ok (.iconst 0, 1) := by decide +kernel
theorem dX2_gatherWith_21 : decode cX2_gatherWith 21 = .ok (.istore 4, 2) := by decide +kernel
theorem dX2_gatherWith_23 : decode cX2_gatherWith 23 = .ok (.iload 4, 2) := by decide +kernel
theorem dX2_gatherWith_25 : decode cX2_gatherWith 25 = .ok (.bipush 10, 2) := by decide +kernel
theorem dX2_gatherWith_27 : decode cX2_gatherWith 27 = .ok (.if_icmp .gt 136, 3) := by decide +kernel
theorem dX2_gatherWith_30 : decode cX2_gatherWith 30 = .ok (.aload_n 0, 1) := by decide +kernel
theorem dX2_gatherWith_31 : decode cX2_gatherWith 31 = .ok (.getfield 44, 3) := by decide +kernel
theorem dX2_gatherWith_34 : decode cX2_gatherWith 34 = .ok (.iconst 2, 1) := by decide +kernel
theorem dX2_gatherWith_35 : decode cX2_gatherWith 35 = .ok (.iload 4, 2) := by decide +kernel
theorem dX2_gatherWith_37 : decode cX2_gatherWith 37 = .ok (.invokevirtual 52, 3) := by decide +kernel
theorem dX2_gatherWith_40 : decode cX2_gatherWith 40 = .ok (.ifCond .ne 6, 3) := by decide +kernel
theorem dX2_gatherWith_43 : decode cX2_gatherWith 43 = .ok (.goto 114, 3) := by decide +kernel
theorem dX2_gatherWith_46 : decode cX2_gatherWith 46 = .ok (.iconst 0, 1) := by decide +kernel
theorem dX2_gatherWith_47 : decode cX2_gatherWith 47 = .ok (.istore 5, 2) := by decide +kernel
theorem dX2_gatherWith_49 : decode cX2_gatherWith 49 = .ok (.iload 5, 2) := by decide +kernel
theorem dX2_gatherWith_51 : decode cX2_gatherWith 51 = .ok (.bipush 10, 2) := by decide +kernel
theorem dX2_gatherWith_53 : decode cX2_gatherWith 53 = .ok (.if_icmp .gt 104, 3) := by decide +kernel
theorem dX2_gatherWith_56 : decode cX2_gatherWith 56 = .ok (.iload_n 3, 1) := by decide +kernel
theorem dX2_gatherWith_57 : decode cX2_gatherWith 57 = .ok (.aload_n 0, 1) := by decide +kernel
theorem dX2_gatherWith_58 : decode cX2_gatherWith 58 = .ok (.getfield 36, 3) := by decide +kernel
theorem dX2_gatherWith_61 : decode cX2_gatherWith 61 = .ok (.iconst 2, 1) := by decide +kernel
theorem dX2_gatherWith_62 : decode cX2_gatherWith 62 = .ok (.iload 4, 2) := by decide +kernel
theorem dX2_gatherWith_64 : decode cX2_gatherWith 64 = .ok (.invokevirtual 142, 3) := by decide +kernel
theorem dX2_gatherWith_67 : decode cX2_gatherWith 67 = .ok (.iadd, 1) := by decide +kernel
theorem dX2_gatherWith_68 : decode cX2_gatherWith 68 = .ok (.aload_n 0, 1) := by decide +kernel
theorem dX2_gatherWith_69 : decode cX2_gatherWith 69 = .ok (.getfield 36, 3) := by decide +kernel
theorem dX2_gatherWith_72 : decode cX2_gatherWith 72 = .ok (.iconst 3, 1) := by decide +kernel
theorem dX2_gatherWith_73 : decode cX2_gatherWith 73 = .ok (.iload 5, 2) := by decide +kernel
theorem dX2_gatherWith_75 : decode cX2_gatherWith 75 = .ok (.invokevirtual 142, 3) := by decide +kernel
theorem dX2_gatherWith_78 : decode cX2_gatherWith 78 = .ok (.iadd, 1) := by decide +kernel
theorem dX2_gatherWith_79 : decode cX2_gatherWith 79 = .ok (.istore 6, 2) := by decide +kernel
theorem dX2_gatherWith_81 : decode cX2_gatherWith 81 = .ok (.iload 6, 2) := by decide +kernel
theorem dX2_gatherWith_83 : decode cX2_gatherWith 83 = .ok (.ifCond .lt 68, 3) := by decide +kernel
theorem dX2_gatherWith_86 : decode cX2_gatherWith 86 = .ok (.iload 6, 2) := by decide +kernel
theorem dX2_gatherWith_88 : decode cX2_gatherWith 88 = .ok (.sipush 800, 3) := by decide +kernel
theorem dX2_gatherWith_91 : decode cX2_gatherWith 91 = .ok (.if_icmp .gt 60, 3) := by decide +kernel
theorem dX2_gatherWith_94 : decode cX2_gatherWith 94 = .ok (.aload_n 0, 1) := by decide +kernel
theorem dX2_gatherWith_95 : decode cX2_gatherWith 95 = .ok (.getfield 15, 3) := by decide +kernel
theorem dX2_gatherWith_98 : decode cX2_gatherWith 98 = .ok (.iload 6, 2) := by decide +kernel
theorem dX2_gatherWith_100 : decode cX2_gatherWith 100 = .ok (.laload, 1) := by decide +kernel
theorem dX2_gatherWith_101 : decode cX2_gatherWith 101 = .ok (.ldc2_w 154, 3) := by decide +kernel
theorem dX2_gatherWith_104 : decode cX2_gatherWith 104 = .ok (.lcmp, 1) := by decide +kernel
theorem dX2_gatherWith_105 : decode cX2_gatherWith 105 = .ok (.ifCond .eq 46, 3) := by decide +kernel
theorem dX2_gatherWith_108 : decode cX2_gatherWith 108 = .ok (.aload_n 0, 1) := by decide +kernel
theorem dX2_gatherWith_109 : decode cX2_gatherWith 109 = .ok (.getfield 44, 3) := by decide +kernel
theorem dX2_gatherWith_112 : decode cX2_gatherWith 112 = .ok (.iconst 3, 1) := by decide +kernel
theorem dX2_gatherWith_113 : decode cX2_gatherWith 113 = .ok (.iload 5, 2) := by decide +kernel
theorem dX2_gatherWith_115 : decode cX2_gatherWith 115 = .ok (.invokevirtual 52, 3) := by decide +kernel
theorem dX2_gatherWith_118 : decode cX2_gatherWith 118 = .ok (.ifCond .eq 33, 3) := by decide +kernel
theorem dX2_gatherWith_121 : decode cX2_gatherWith 121 = .ok (.aload_n 0, 1) := by decide +kernel
theorem dX2_gatherWith_122 : decode cX2_gatherWith 122 = .ok (.iload_n 1, 1) := by decide +kernel
theorem dX2_gatherWith_123 : decode cX2_gatherWith 123 = .ok (.iload_n 2, 1) := by decide +kernel
theorem dX2_gatherWith_124 : decode cX2_gatherWith 124 = .ok (.iload 4, 2) := by decide +kernel
theorem dX2_gatherWith_126 : decode cX2_gatherWith 126 = .ok (.iload 5, 2) := by decide +kernel
theorem dX2_gatherWith_128 : decode cX2_gatherWith 128 = .ok (.aload_n 0, 1) := by decide +kernel
theorem dX2_gatherWith_129 : decode cX2_gatherWith 129 = .ok (.getfield 15, 3) := by decide +kernel
theorem dX2_gatherWith_132 : decode cX2_gatherWith 132 = .ok (.iload 6, 2) := by decide +kernel
theorem dX2_gatherWith_134 : decode cX2_gatherWith 134 = .ok (.laload, 1) := by decide +kernel
theorem dX2_gatherWith_135 : decode cX2_gatherWith 135 = .ok (.invokevirtual 163, 3) := by decide +kernel
theorem dX2_gatherWith_138 : decode cX2_gatherWith 138 = .ok (.ifCond .eq 13, 3) := by decide +kernel
theorem dX2_gatherWith_141 : decode cX2_gatherWith 141 = .ok (.aload_n 0, 1) := by decide +kernel
theorem dX2_gatherWith_142 : decode cX2_gatherWith 142 = .ok (.iload_n 1, 1) := by decide +kernel
theorem dX2_gatherWith_143 : decode cX2_gatherWith 143 = .ok (.iload_n 2, 1) := by decide +kernel
theorem dX2_gatherWith_144 : decode cX2_gatherWith 144 = .ok (.iload 4, 2) := by decide +kernel
theorem dX2_gatherWith_146 : decode cX2_gatherWith 146 = .ok (.iload 5, 2) := by decide +kernel
theorem dX2_gatherWith_148 : decode cX2_gatherWith 148 = .ok (.invokevirtual 167, 3) := by decide +kernel
theorem dX2_gatherWith_151 : decode cX2_gatherWith 151 = .ok (.iinc 5 1, 3) := by decide +kernel
theorem dX2_gatherWith_154 : decode cX2_gatherWith 154 = .ok (.goto (-105), 3) := by decide +kernel
theorem dX2_gatherWith_157 : decode cX2_gatherWith 157 = .ok (.iinc 4 1, 3) := by decide +kernel
theorem dX2_gatherWith_160 : decode cX2_gatherWith 160 = .ok (.goto (-137), 3) := by decide +kernel
theorem dX2_gatherWith_163 : decode cX2_gatherWith 163 = .ok (.return_, 1) := by decide +kernel
theorem dX2_keepNone_0 : decode cX2_keepNone 0 = .ok (.iconst 0, 1) := by decide +kernel
theorem dX2_keepNone_1 : decode cX2_keepNone 1 = .ok (.istore_n 1, 1) := by decide +kernel
theorem dX2_keepNone_2 : decode cX2_keepNone 2 = .ok (.iload_n 1, 1) := by decide +kernel
theorem dX2_keepNone_3 : decode cX2_keepNone 3 = .ok (.sipush 1331, 3) := by decide +kernel
theorem dX2_keepNone_6 : decode cX2_keepNone 6 = .ok (.if_icmp .ge 16, 3) := by decide +kernel
theorem dX2_keepNone_9 : decode cX2_keepNone 9 = .ok (.aload_n 0, 1) := by decide +kernel
theorem dX2_keepNone_10 : decode cX2_keepNone 10 = .ok (.getfield 11, 3) := by decide +kernel
theorem dX2_keepNone_13 : decode cX2_keepNone 13 = .ok (.iload_n 1, 1) := by decide +kernel
theorem dX2_keepNone_14 : decode cX2_keepNone 14 = .ok (.iconst 0, 1) := by decide +kernel
theorem dX2_keepNone_15 : decode cX2_keepNone 15 = .ok (.iastore, 1) := by decide +kernel
theorem dX2_keepNone_16 : decode cX2_keepNone 16 = .ok (.iinc 1 1, 3) := by decide +kernel
theorem dX2_keepNone_19 : decode cX2_keepNone 19 = .ok (.goto (-17), 3) := by decide +kernel
theorem dX2_keepNone_22 : decode cX2_keepNone 22 = .ok (.iconst 0, 1) := by decide +kernel
theorem dX2_keepNone_23 : decode cX2_keepNone 23 = .ok (.istore_n 1, 1) := by decide +kernel
theorem dX2_keepNone_24 : decode cX2_keepNone 24 = .ok (.iload_n 1, 1) := by decide +kernel
theorem dX2_keepNone_25 : decode cX2_keepNone 25 = .ok (.bipush 44, 2) := by decide +kernel
theorem dX2_keepNone_27 : decode cX2_keepNone 27 = .ok (.if_icmp .ge 16, 3) := by decide +kernel
theorem dX2_keepNone_30 : decode cX2_keepNone 30 = .ok (.aload_n 0, 1) := by decide +kernel
theorem dX2_keepNone_31 : decode cX2_keepNone 31 = .ok (.getfield 19, 3) := by decide +kernel
theorem dX2_keepNone_34 : decode cX2_keepNone 34 = .ok (.iload_n 1, 1) := by decide +kernel
theorem dX2_keepNone_35 : decode cX2_keepNone 35 = .ok (.iconst 0, 1) := by decide +kernel
theorem dX2_keepNone_36 : decode cX2_keepNone 36 = .ok (.iastore, 1) := by decide +kernel
theorem dX2_keepNone_37 : decode cX2_keepNone 37 = .ok (.iinc 1 1, 3) := by decide +kernel
theorem dX2_keepNone_40 : decode cX2_keepNone 40 = .ok (.goto (-16), 3) := by decide +kernel
theorem dX2_keepNone_43 : decode cX2_keepNone 43 = .ok (.aload_n 0, 1) := by decide +kernel
theorem dX2_keepNone_44 : decode cX2_keepNone 44 = .ok (.iconst 0, 1) := by decide +kernel
theorem dX2_keepNone_45 : decode cX2_keepNone 45 = .ok (.putfield 81, 3) := by decide +kernel
theorem dX2_keepNone_48 : decode cX2_keepNone 48 = .ok (.aload_n 0, 1) := by decide +kernel
theorem dX2_keepNone_49 : decode cX2_keepNone 49 = .ok (.iconst 0, 1) := by decide +kernel
theorem dX2_keepNone_50 : decode cX2_keepNone 50 = .ok (.putfield 91, 3) := by decide +kernel
theorem dX2_keepNone_53 : decode cX2_keepNone 53 = .ok (.aload_n 0, 1) := by decide +kernel
theorem dX2_keepNone_54 : decode cX2_keepNone 54 = .ok (.iconst (-1), 1) := by decide +kernel
theorem dX2_keepNone_55 : decode cX2_keepNone 55 = .ok (.putfield 94, 3) := by decide +kernel
theorem dX2_keepNone_58 : decode cX2_keepNone 58 = .ok (.return_, 1) := by decide +kernel
theorem dX2_keep_0 : decode cX2_keep 0 = .ok (.iload_n 1, 1) := by decide +kernel
theorem dX2_keep_1 : decode cX2_keep 1 = .ok (.bipush 11, 2) := by decide +kernel
theorem dX2_keep_3 : decode cX2_keep 3 = .ok (.imul, 1) := by decide +kernel
theorem dX2_keep_4 : decode cX2_keep 4 = .ok (.iload_n 2, 1) := by decide +kernel
theorem dX2_keep_5 : decode cX2_keep 5 = .ok (.iadd, 1) := by decide +kernel
theorem dX2_keep_6 : decode cX2_keep 6 = .ok (.bipush 11, 2) := by decide +kernel
theorem dX2_keep_8 : decode cX2_keep 8 = .ok (.imul, 1) := by decide +kernel
theorem dX2_keep_9 : decode cX2_keep 9 = .ok (.iload_n 3, 1) := by decide +kernel
theorem dX2_keep_10 : decode cX2_keep 10 = .ok (.iadd, 1) := by decide +kernel
theorem dX2_keep_11 : decode cX2_keep 11 = .ok (.istore 5, 2) := by decide +kernel
theorem dX2_keep_13 : decode cX2_keep 13 = .ok (.iload 5, 2) := by decide +kernel
theorem dX2_keep_15 : decode cX2_keep 15 = .ok (.bipush 11, 2) := by decide +kernel
theorem dX2_keep_17 : decode cX2_keep 17 = .ok (.imul, 1) := by decide +kernel
theorem dX2_keep_18 : decode cX2_keep 18 = .ok (.iload 4, 2) := by decide +kernel
theorem dX2_keep_20 : decode cX2_keep 20 = .ok (.iadd, 1) := by decide +kernel
theorem dX2_keep_21 : decode cX2_keep 21 = .ok (.istore 6, 2) := by decide +kernel
theorem dX2_keep_23 : decode cX2_keep 23 = .ok (.aload_n 0, 1) := by decide +kernel
theorem dX2_keep_24 : decode cX2_keep 24 = .ok (.getfield 11, 3) := by decide +kernel
theorem dX2_keep_27 : decode cX2_keep 27 = .ok (.iload 5, 2) := by decide +kernel
theorem dX2_keep_29 : decode cX2_keep 29 = .ok (.dup2, 1) := by decide +kernel
theorem dX2_keep_30 : decode cX2_keep 30 = .ok (.iaload, 1) := by decide +kernel
theorem dX2_keep_31 : decode cX2_keep 31 = .ok (.iconst 1, 1) := by decide +kernel
theorem dX2_keep_32 : decode cX2_keep 32 = .ok (.iload 4, 2) := by decide +kernel
theorem dX2_keep_34 : decode cX2_keep 34 = .ok (.ishl, 1) := by decide +kernel
theorem dX2_keep_35 : decode cX2_keep 35 = .ok (.ior, 1) := by decide +kernel
theorem dX2_keep_36 : decode cX2_keep 36 = .ok (.iastore, 1) := by decide +kernel
theorem dX2_keep_37 : decode cX2_keep 37 = .ok (.aload_n 0, 1) := by decide +kernel
theorem dX2_keep_38 : decode cX2_keep 38 = .ok (.getfield 19, 3) := by decide +kernel
theorem dX2_keep_41 : decode cX2_keep 41 = .ok (.iload_n 1, 1) := by decide +kernel
theorem dX2_keep_42 : decode cX2_keep 42 = .ok (.dup2, 1) := by decide +kernel
theorem dX2_keep_43 : decode cX2_keep 43 = .ok (.iaload, 1) := by decide +kernel
theorem dX2_keep_44 : decode cX2_keep 44 = .ok (.iconst 1, 1) := by decide +kernel
theorem dX2_keep_45 : decode cX2_keep 45 = .ok (.iadd, 1) := by decide +kernel
theorem dX2_keep_46 : decode cX2_keep 46 = .ok (.iastore, 1) := by decide +kernel
theorem dX2_keep_47 : decode cX2_keep 47 = .ok (.aload_n 0, 1) := by decide +kernel
theorem dX2_keep_48 : decode cX2_keep 48 = .ok (.getfield 19, 3) := by decide +kernel
theorem dX2_keep_51 : decode cX2_keep 51 = .ok (.bipush 11, 2) := by decide +kernel
theorem dX2_keep_53 : decode cX2_keep 53 = .ok (.iload_n 2, 1) := by decide +kernel
theorem dX2_keep_54 : decode cX2_keep 54 = .ok (.iadd, 1) := by decide +kernel
theorem dX2_keep_55 : decode cX2_keep 55 = .ok (.dup2, 1) := by decide +kernel
theorem dX2_keep_56 : decode cX2_keep 56 = .ok (.iaload, 1) := by decide +kernel
theorem dX2_keep_57 : decode cX2_keep 57 = .ok (.iconst 1, 1) := by decide +kernel
theorem dX2_keep_58 : decode cX2_keep 58 = .ok (.iadd, 1) := by decide +kernel
theorem dX2_keep_59 : decode cX2_keep 59 = .ok (.iastore, 1) := by decide +kernel
theorem dX2_keep_60 : decode cX2_keep 60 = .ok (.aload_n 0, 1) := by decide +kernel
theorem dX2_keep_61 : decode cX2_keep 61 = .ok (.getfield 19, 3) := by decide +kernel
theorem dX2_keep_64 : decode cX2_keep 64 = .ok (.bipush 22, 2) := by decide +kernel
theorem dX2_keep_66 : decode cX2_keep 66 = .ok (.iload_n 3, 1) := by decide +kernel
theorem dX2_keep_67 : decode cX2_keep 67 = .ok (.iadd, 1) := by decide +kernel
theorem dX2_keep_68 : decode cX2_keep 68 = .ok (.dup2, 1) := by decide +kernel
theorem dX2_keep_69 : decode cX2_keep 69 = .ok (.iaload, 1) := by decide +kernel
theorem dX2_keep_70 : decode cX2_keep 70 = .ok (.iconst 1, 1) := by decide +kernel
theorem dX2_keep_71 : decode cX2_keep 71 = .ok (.iadd, 1) := by decide +kernel
theorem dX2_keep_72 : decode cX2_keep 72 = .ok (.iastore, 1) := by decide +kernel
theorem dX2_keep_73 : decode cX2_keep 73 = .ok (.aload_n 0, 1) := by decide +kernel
theorem dX2_keep_74 : decode cX2_keep 74 = .ok (.getfield 19, 3) := by decide +kernel
theorem dX2_keep_77 : decode cX2_keep 77 = .ok (.bipush 33, 2) := by decide +kernel
theorem dX2_keep_79 : decode cX2_keep 79 = .ok (.iload 4, 2) := by decide +kernel
theorem dX2_keep_81 : decode cX2_keep 81 = .ok (.iadd, 1) := by decide +kernel
theorem dX2_keep_82 : decode cX2_keep 82 = .ok (.dup2, 1) := by decide +kernel
theorem dX2_keep_83 : decode cX2_keep 83 = .ok (.iaload, 1) := by decide +kernel
theorem dX2_keep_84 : decode cX2_keep 84 = .ok (.iconst 1, 1) := by decide +kernel
theorem dX2_keep_85 : decode cX2_keep 85 = .ok (.iadd, 1) := by decide +kernel
theorem dX2_keep_86 : decode cX2_keep 86 = .ok (.iastore, 1) := by decide +kernel
theorem dX2_keep_87 : decode cX2_keep 87 = .ok (.aload_n 0, 1) := by decide +kernel
theorem dX2_keep_88 : decode cX2_keep 88 = .ok (.aload_n 0, 1) := by decide +kernel
theorem dX2_keep_89 : decode cX2_keep 89 = .ok (.getfield 81, 3) := by decide +kernel
theorem dX2_keep_92 : decode cX2_keep 92 = .ok (.ifCond .ne 8, 3) := by decide +kernel
theorem dX2_keep_95 : decode cX2_keep 95 = .ok (.iload 6, 2) := by decide +kernel
theorem dX2_keep_97 : decode cX2_keep 97 = .ok (.goto 7, 3) := by decide +kernel
theorem dX2_keep_100 : decode cX2_keep 100 = .ok (.aload_n 0, 1) := by decide +kernel
theorem dX2_keep_101 : decode cX2_keep 101 = .ok (.getfield 91, 3) := by decide +kernel
theorem dX2_keep_104 : decode cX2_keep 104 = .ok (.putfield 91, 3) := by decide +kernel
theorem dX2_keep_107 : decode cX2_keep 107 = .ok (.aload_n 0, 1) := by decide +kernel
theorem dX2_keep_108 : decode cX2_keep 108 = .ok (.iload 6, 2) := by decide +kernel
theorem dX2_keep_110 : decode cX2_keep 110 = .ok (.putfield 94, 3) := by decide +kernel
theorem dX2_keep_113 : decode cX2_keep 113 = .ok (.aload_n 0, 1) := by decide +kernel
theorem dX2_keep_114 : decode cX2_keep 114 = .ok (.dup, 1) := by decide +kernel
theorem dX2_keep_115 : decode cX2_keep 115 = .ok (.getfield 81, 3) := by decide +kernel
theorem dX2_keep_118 : decode cX2_keep 118 = .ok (.iconst 1, 1) := by decide +kernel
theorem dX2_keep_119 : decode cX2_keep 119 = .ok (.iadd, 1) := by decide +kernel
theorem dX2_keep_120 : decode cX2_keep 120 = .ok (.putfield 81, 3) := by decide +kernel
theorem dX2_keep_123 : decode cX2_keep 123 = .ok (.return_, 1) := by decide +kernel
theorem dX2_isKept_0 : decode cX2_isKept 0 = .ok (.iload_n 1, 1) := by decide +kernel
theorem dX2_isKept_1 : decode cX2_isKept 1 = .ok (.ifCond .lt 34, 3) := by decide +kernel
theorem dX2_isKept_4 : decode cX2_isKept 4 = .ok (.iload_n 1, 1) := by decide +kernel
theorem dX2_isKept_5 : decode cX2_isKept 5 = .ok (.sipush 14641, 3) := by decide +kernel
theorem dX2_isKept_8 : decode cX2_isKept 8 = .ok (.if_icmp .ge 27, 3) := by decide +kernel
theorem dX2_isKept_11 : decode cX2_isKept 11 = .ok (.aload_n 0, 1) := by decide +kernel
theorem dX2_isKept_12 : decode cX2_isKept 12 = .ok (.getfield 11, 3) := by decide +kernel
theorem dX2_isKept_15 : decode cX2_isKept 15 = .ok (.iload_n 1, 1) := by decide +kernel
theorem dX2_isKept_16 : decode cX2_isKept 16 = .ok (.bipush 11, 2) := by decide +kernel
theorem dX2_isKept_18 : decode cX2_isKept 18 = .ok (.idiv, 1) := by decide +kernel
theorem dX2_isKept_19 : decode cX2_isKept 19 = .ok (.iaload, 1) := by decide +kernel
theorem dX2_isKept_20 : decode cX2_isKept 20 = .ok (.iload_n 1, 1) := by decide +kernel
theorem dX2_isKept_21 : decode cX2_isKept 21 = .ok (.bipush 11, 2) := by decide +kernel
theorem dX2_isKept_23 : decode cX2_isKept 23 = .ok (.irem, 1) := by decide +kernel
theorem dX2_isKept_24 : decode cX2_isKept 24 = .ok (.ishr, 1) := by decide +kernel
theorem dX2_isKept_25 : decode cX2_isKept 25 = .ok (.iconst 1, 1) := by decide +kernel
theorem dX2_isKept_26 : decode cX2_isKept 26 = .ok (.iand, 1) := by decide +kernel
theorem dX2_isKept_27 : decode cX2_isKept 27 = .ok (.iconst 1, 1) := by decide +kernel
theorem dX2_isKept_28 : decode cX2_isKept 28 = .ok (.if_icmp .ne 7, 3) := by decide +kernel
theorem dX2_isKept_31 : decode cX2_isKept 31 = .ok (.iconst 1, 1) := by decide +kernel
theorem dX2_isKept_32 : decode cX2_isKept 32 = .ok (.goto 4, 3) := by decide +kernel
theorem dX2_isKept_35 : decode cX2_isKept 35 = .ok (.iconst 0, 1) := by decide +kernel
theorem dX2_isKept_36 : decode cX2_isKept 36 = .ok (.ireturn, 1) := by decide +kernel
set_option maxRecDepth 20000 in
theorem ggX2_allHolesAreNear_X2_holesAreNear : GoodIn wsX2_allHolesAreNear wsX2_holesAreNear := goodIn_r _ [7, 8, 1, 9, 10, 11, 12, 13, 14, 15, 16, 17, 18, 19, 20, 21, 22, 23, 24, 25, 26, 27, 28, 29, 30, 31, 32, 33, 34, 35, 36, 37, 38, 39, 40, 41, 42, 43, 44, 45, 46, 47, 48, 49, 50, 51, 52] (by decide +kernel) (by decide +kernel)
set_option maxRecDepth 20000 in
theorem gX2_allHolesAreNear_X2_holesAreNear : GoodIn wsX2_allHolesAreNear (wsV RX2 71 RX2 yX2_holesAreNear wsX2_holesAreNear) := goodIn_app (goodIn_of _ (by decide +kernel)) ggX2_allHolesAreNear_X2_holesAreNear
theorem dX2_allHolesAreNear_0 : decode cX2_allHolesAreNear 0 = .ok (.aload_n 0, 1) := by decide +kernel
theorem dX2_allHolesAreNear_1 : decode cX2_allHolesAreNear 1 = .ok (.getfield 36, 3) := by decide +kernel
theorem dX2_allHolesAreNear_4 : decode cX2_allHolesAreNear 4 = .ok (.getfield 148, 3) := by decide +kernel
theorem dX2_allHolesAreNear_7 : decode cX2_allHolesAreNear 7 = .ok (.iconst 5, 1) := by decide +kernel
theorem dX2_allHolesAreNear_8 : decode cX2_allHolesAreNear 8 = .ok (.iaload, 1) := by decide +kernel
theorem dX2_allHolesAreNear_9 : decode cX2_allHolesAreNear 9 = .ok (.istore 7, 2) := by decide +kernel
theorem dX2_allHolesAreNear_11 : decode cX2_allHolesAreNear 11 = .ok (.aload_n 0, 1) := by decide +kernel
theorem dX2_allHolesAreNear_12 : decode cX2_allHolesAreNear 12 = .ok (.iconst 0, 1) := by decide +kernel
theorem dX2_allHolesAreNear_13 : decode cX2_allHolesAreNear 13 = .ok (.iload_n 1, 1) := by decide +kernel
theorem dX2_allHolesAreNear_14 : decode cX2_allHolesAreNear 14 = .ok (.lload 5, 2) := by decide +kernel
theorem dX2_allHolesAreNear_16 : decode cX2_allHolesAreNear 16 = .ok (.iload 7, 2) := by decide +kernel
theorem dX2_allHolesAreNear_18 : decode cX2_allHolesAreNear 18 = .ok (.invokevirtual 71, 3) := by decide +kernel
theorem dX2_allHolesAreNear_21 : decode cX2_allHolesAreNear 21 = .ok (.ifCond .eq 47, 3) := by decide +kernel
theorem dX2_allHolesAreNear_24 : decode cX2_allHolesAreNear 24 = .ok (.aload_n 0, 1) := by decide +kernel
theorem dX2_allHolesAreNear_25 : decode cX2_allHolesAreNear 25 = .ok (.iconst 1, 1) := by decide +kernel
theorem dX2_allHolesAreNear_26 : decode cX2_allHolesAreNear 26 = .ok (.iload_n 2, 1) := by decide +kernel
theorem dX2_allHolesAreNear_27 : decode cX2_allHolesAreNear 27 = .ok (.lload 5, 2) := by decide +kernel
theorem dX2_allHolesAreNear_29 : decode cX2_allHolesAreNear 29 = .ok (.iload 7, 2) := by decide +kernel
theorem dX2_allHolesAreNear_31 : decode cX2_allHolesAreNear 31 = .ok (.invokevirtual 71, 3) := by decide +kernel
theorem dX2_allHolesAreNear_34 : decode cX2_allHolesAreNear 34 = .ok (.ifCond .eq 34, 3) := by decide +kernel
theorem dX2_allHolesAreNear_37 : decode cX2_allHolesAreNear 37 = .ok (.aload_n 0, 1) := by decide +kernel
theorem dX2_allHolesAreNear_38 : decode cX2_allHolesAreNear 38 = .ok (.iconst 2, 1) := by decide +kernel
theorem dX2_allHolesAreNear_39 : decode cX2_allHolesAreNear 39 = .ok (.iload_n 3, 1) := by decide +kernel
theorem dX2_allHolesAreNear_40 : decode cX2_allHolesAreNear 40 = .ok (.lload 5, 2) := by decide +kernel
theorem dX2_allHolesAreNear_42 : decode cX2_allHolesAreNear 42 = .ok (.iload 7, 2) := by decide +kernel
theorem dX2_allHolesAreNear_44 : decode cX2_allHolesAreNear 44 = .ok (.invokevirtual 71, 3) := by decide +kernel
theorem dX2_allHolesAreNear_47 : decode cX2_allHolesAreNear 47 = .ok (.ifCond .eq 21, 3) := by decide +kernel
theorem dX2_allHolesAreNear_50 : decode cX2_allHolesAreNear 50 = .ok (.aload_n 0, 1) := by decide +kernel
theorem dX2_allHolesAreNear_51 : decode cX2_allHolesAreNear 51 = .ok (.iconst 3, 1) := by decide +kernel
theorem dX2_allHolesAreNear_52 : decode cX2_allHolesAreNear 52 = .ok (.iload 4, 2) := by decide +kernel
theorem dX2_allHolesAreNear_54 : decode cX2_allHolesAreNear 54 = .ok (.lload 5, 2) := by decide +kernel
theorem dX2_allHolesAreNear_56 : decode cX2_allHolesAreNear 56 = .ok (.iload 7, 2) := by decide +kernel
theorem dX2_allHolesAreNear_58 : decode cX2_allHolesAreNear 58 = .ok (.invokevirtual 71, 3) := by decide +kernel
theorem dX2_allHolesAreNear_61 : decode cX2_allHolesAreNear 61 = .ok (.ifCond .eq 7, 3) := by decide +kernel
theorem dX2_allHolesAreNear_64 : decode cX2_allHolesAreNear 64 = .ok (.iconst 1, 1) := by decide +kernel
theorem dX2_allHolesAreNear_65 : decode cX2_allHolesAreNear 65 = .ok (.goto 4, 3) := by decide +kernel
theorem dX2_allHolesAreNear_68 : decode cX2_allHolesAreNear 68 = .ok (.iconst 0, 1) := by decide +kernel
theorem dX2_allHolesAreNear_69 : decode cX2_allHolesAreNear 69 = .ok (.ireturn, 1) := by decide +kernel
theorem dX3_init_0 : decode cX3_init 0 = .ok (.aload_n 0, 1) := by decide +kernel
theorem dX3_init_1 : decode cX3_init 1 = .ok (.invokespecial 1, 3) := by decide +kernel
theorem dX3_init_4 : decode cX3_init 4 = .ok (.aload_n 0, 1) := by decide +kernel
theorem dX3_init_5 : decode cX3_init 5 = .ok (.bipush 10, 2) := by decide +kernel
theorem dX3_init_7 : decode cX3_init 7 = .ok (.newarray .int, 2) := by decide +kernel
theorem dX3_init_9 : decode cX3_init 9 = .ok (.putfield 9, 3) := by decide +kernel
theorem dX3_init_12 : decode cX3_init 12 = .ok (.aload_n 0, 1) := by decide +kernel
theorem dX3_init_13 : decode cX3_init 13 = .ok (.bipush 8, 2) := by decide +kernel
theorem dX3_init_15 : decode cX3_init 15 = .ok (.bipush 10, 2) := by decide +kernel
theorem dX3_init_17 : decode cX3_init 17 = .ok (.multianewarray 13 2, 4) := by decide +kernel
theorem dX3_init_21 : decode cX3_init 21 = .ok (.putfield 15, 3) := by decide +kernel
theorem dX3_init_24 : decode cX3_init 24 = .ok (.return_, 1) := by decide +kernel
theorem dX3_sorties_0 : decode cX3_sorties 0 = .ok (.aload_n 0, 1) := by decide +kernel
theorem dX3_sorties_1 : decode cX3_sorties 1 = .ok (.getfield 9, 3) := by decide +kernel
theorem dX3_sorties_4 : decode cX3_sorties 4 = .ok (.iconst 0, 1) := by decide +kernel
theorem dX3_sorties_5 : decode cX3_sorties 5 = .ok (.iaload, 1) := by decide +kernel
theorem dX3_sorties_6 : decode cX3_sorties 6 = .ok (.ireturn, 1) := by decide +kernel
theorem dX3_withHoles_0 : decode cX3_withHoles 0 = .ok (.aload_n 0, 1) := by decide +kernel
theorem dX3_withHoles_1 : decode cX3_withHoles 1 = .ok (.getfield 9, 3) := by decide +kernel
theorem dX3_withHoles_4 : decode cX3_withHoles 4 = .ok (.iconst 1, 1) := by decide +kernel
theorem dX3_withHoles_5 : decode cX3_withHoles 5 = .ok (.iload_n 1, 1) := by decide +kernel
theorem dX3_withHoles_6 : decode cX3_withHoles 6 = .ok (.iadd, 1) := by decide +kernel
theorem dX3_withHoles_7 : decode cX3_withHoles 7 = .ok (.iaload, 1) := by decide +kernel
theorem dX3_withHoles_8 : decode cX3_withHoles 8 = .ok (.ireturn, 1) := by decide +kernel
set_option maxRecDepth 20000 in
theorem ggX3_allHomes_X3_withHoles : GoodIn wsX3_allHomes wsX3_withHoles := goodIn_r _ [5, 6, 7, 8, 9, 10] (by decide +kernel) (by decide +kernel)
set_option maxRecDepth 20000 in
theorem gX3_allHomes_X3_withHoles : GoodIn wsX3_allHomes (wsV RX3 18 RX3 yX3_withHoles wsX3_withHoles) := goodIn_app (goodIn_of _ (by decide +kernel)) ggX3_allHomes_X3_withHoles
theorem dX3_allHomes_0 : decode cX3_allHomes 0 = .ok (.aload_n 0, 1) := by decide +kernel
theorem dX3_allHomes_1 : decode cX3_allHomes 1 = .ok (.iconst 0, 1) := by decide +kernel
theorem dX3_allHomes_2 : decode cX3_allHomes 2 = .ok (.invokevirtual 18, 3) := by decide +kernel
theorem dX3_allHomes_5 : decode cX3_allHomes 5 = .ok (.aload_n 0, 1) := by decide +kernel
theorem dX3_allHomes_6 : decode cX3_allHomes 6 = .ok (.iconst 1, 1) := by decide +kernel
theorem dX3_allHomes_7 : decode cX3_allHomes 7 = .ok (.invokevirtual 18, 3) := by decide +kernel
theorem dX3_allHomes_10 : decode cX3_allHomes 10 = .ok (.iadd, 1) := by decide +kernel
theorem dX3_allHomes_11 : decode cX3_allHomes 11 = .ok (.aload_n 0, 1) := by decide +kernel
theorem dX3_allHomes_12 : decode cX3_allHomes 12 = .ok (.iconst 2, 1) := by decide +kernel
theorem dX3_allHomes_13 : decode cX3_allHomes 13 = .ok (.invokevirtual 18, 3) := by decide +kernel
theorem dX3_allHomes_16 : decode cX3_allHomes 16 = .ok (.iadd, 1) := by decide +kernel
theorem dX3_allHomes_17 : decode cX3_allHomes 17 = .ok (.aload_n 0, 1) := by decide +kernel
theorem dX3_allHomes_18 : decode cX3_allHomes 18 = .ok (.iconst 3, 1) := by decide +kernel
theorem dX3_allHomes_19 : decode cX3_allHomes 19 = .ok (.invokevirtual 18, 3) := by decide +kernel
theorem dX3_allHomes_22 : decode cX3_allHomes 22 = .ok (.iadd, 1) := by decide +kernel
theorem dX3_allHomes_23 : decode cX3_allHomes 23 = .ok (.ireturn, 1) := by decide +kernel
theorem dX3_inPart_0 : decode cX3_inPart 0 = .ok (.aload_n 0, 1) := by decide +kernel
theorem dX3_inPart_1 : decode cX3_inPart 1 = .ok (.getfield 9, 3) := by decide +kernel
theorem dX3_inPart_4 : decode cX3_inPart 4 = .ok (.iconst 5, 1) := by decide +kernel
theorem dX3_inPart_5 : decode cX3_inPart 5 = .ok (.iload_n 1, 1) := by decide +kernel
theorem dX3_inPart_6 : decode cX3_inPart 6 = .ok (.iadd, 1) := by decide +kernel
theorem dX3_inPart_7 : decode cX3_inPart 7 = .ok (.iaload, 1) := by decide +kernel
theorem dX3_inPart_8 : decode cX3_inPart 8 = .ok (.ireturn, 1) := by decide +kernel
theorem dX3_beginAct_0 : decode cX3_beginAct 0 = .ok (.aload_n 0, 1) := by decide +kernel
theorem dX3_beginAct_1 : decode cX3_beginAct 1 = .ok (.aload_n 0, 1) := by decide +kernel
theorem dX3_beginAct_2 : decode cX3_beginAct 2 = .ok (.getfield 22, 3) := by decide +kernel
theorem dX3_beginAct_5 : decode cX3_beginAct 5 = .ok (.iconst 1, 1) := by decide +kernel
theorem dX3_beginAct_6 : decode cX3_beginAct 6 = .ok (.iadd, 1) := by decide +kernel
theorem dX3_beginAct_7 : decode cX3_beginAct 7 = .ok (.bipush 8, 2) := by decide +kernel
theorem dX3_beginAct_9 : decode cX3_beginAct 9 = .ok (.irem, 1) := by decide +kernel
theorem dX3_beginAct_10 : decode cX3_beginAct 10 = .ok (.putfield 22, 3) := by decide +kernel
theorem dX3_beginAct_13 : decode cX3_beginAct 13 = .ok (.aload_n 0, 1) := by decide +kernel
theorem dX3_beginAct_14 : decode cX3_beginAct 14 = .ok (.aload_n 0, 1) := by decide +kernel
theorem dX3_beginAct_15 : decode cX3_beginAct 15 = .ok (.getfield 26, 3) := by decide +kernel
theorem dX3_beginAct_18 : decode cX3_beginAct 18 = .ok (.iconst 1, 1) := by decide +kernel
theorem dX3_beginAct_19 : decode cX3_beginAct 19 = .ok (.iadd, 1) := by decide +kernel
theorem dX3_beginAct_20 : decode cX3_beginAct 20 = .ok (.bipush 8, 2) := by decide +kernel
theorem dX3_beginAct_22 : decode cX3_beginAct 22 = .ok (.invokestatic 29, 3) := by decide +kernel
theorem dX3_beginAct_25 : decode cX3_beginAct 25 = .ok (.putfield 26, 3) := by decide +kernel
theorem dX3_beginAct_28 : decode cX3_beginAct 28 = .ok (.iconst 0, 1) := by decide +kernel
theorem dX3_beginAct_29 : decode cX3_beginAct 29 = .ok (.istore_n 1, 1) := by decide +kernel
theorem dX3_beginAct_30 : decode cX3_beginAct 30 = .ok (.iload_n 1, 1) := by decide +kernel
theorem dX3_beginAct_31 : decode cX3_beginAct 31 = .ok (.bipush 10, 2) := by decide +kernel
theorem dX3_beginAct_33 : decode cX3_beginAct 33 = .ok (.if_icmp .ge 21, 3) := by decide +kernel
theorem dX3_beginAct_36 : decode cX3_beginAct 36 = .ok (.aload_n 0, 1) := by decide +kernel
theorem dX3_beginAct_37 : decode cX3_beginAct 37 = .ok (.getfield 15, 3) := by decide +kernel
theorem dX3_beginAct_40 : decode cX3_beginAct 40 = .ok (.aload_n 0, 1) := by decide +kernel
theorem dX3_beginAct_41 : decode cX3_beginAct 41 = .ok (.getfield 22, 3) := by decide +kernel
theorem dX3_beginAct_44 : decode cX3_beginAct 44 = .ok (.aaload, 1) := by decide +kernel
theorem dX3_beginAct_45 : decode cX3_beginAct 45 = .ok (.iload_n 1, 1) := by decide +kernel
theorem dX3_beginAct_46 : decode cX3_beginAct 46 = .ok (.iconst 0, 1) := by decide +kernel
theorem dX3_beginAct_47 : decode cX3_beginAct 47 = .ok (.iastore, 1) := by decide +kernel
theorem dX3_beginAct_48 : decode cX3_beginAct 48 = .ok (.iinc 1 1, 3) := by decide +kernel
theorem dX3_beginAct_51 : decode cX3_beginAct 51 = .ok (.goto (-21), 3) := by decide +kernel
theorem dX3_beginAct_54 : decode cX3_beginAct 54 = .ok (.return_, 1) := by decide +kernel
theorem dX3_add_0 : decode cX3_add 0 = .ok (.aload_n 0, 1) := by decide +kernel
theorem dX3_add_1 : decode cX3_add 1 = .ok (.getfield 9, 3) := by decide +kernel
theorem dX3_add_4 : decode cX3_add 4 = .ok (.iload_n 1, 1) := by decide +kernel
theorem dX3_add_5 : decode cX3_add 5 = .ok (.dup2, 1) := by decide +kernel
theorem dX3_add_6 : decode cX3_add 6 = .ok (.iaload, 1) := by decide +kernel
theorem dX3_add_7 : decode cX3_add 7 = .ok (.iload_n 2, 1) := by decide +kernel
theorem dX3_add_8 : decode cX3_add 8 = .ok (.iadd, 1) := by decide +kernel
theorem dX3_add_9 : decode cX3_add 9 = .ok (.iastore, 1) := by decide +kernel
theorem dX3_add_10 : decode cX3_add 10 = .ok (.aload_n 0, 1) := by decide +kernel
theorem dX3_add_11 : decode cX3_add 11 = .ok (.getfield 15, 3) := by decide +kernel
theorem dX3_add_14 : decode cX3_add 14 = .ok (.aload_n 0, 1) := by decide +kernel
theorem dX3_add_15 : decode cX3_add 15 = .ok (.getfield 22, 3) := by decide +kernel
theorem dX3_add_18 : decode cX3_add 18 = .ok (.aaload, 1) := by decide +kernel
theorem dX3_add_19 : decode cX3_add 19 = .ok (.iload_n 1, 1) := by decide +kernel
theorem dX3_add_20 : decode cX3_add 20 = .ok (.dup2, 1) := by decide +kernel
theorem dX3_add_21 : decode cX3_add 21 = .ok (.iaload, 1) := by decide +kernel
theorem dX3_add_22 : decode cX3_add 22 = .ok (.iload_n 2, 1) := by decide +kernel
theorem dX3_add_23 : decode cX3_add 23 = .ok (.iadd, 1) := by decide +kernel
theorem dX3_add_24 : decode cX3_add 24 = .ok (.iastore, 1) := by decide +kernel
theorem dX3_add_25 : decode cX3_add 25 = .ok (.return_, 1) := by decide +kernel
set_option maxRecDepth 20000 in
theorem ggX3_addHomes_X3_add : GoodIn wsX3_addHomes wsX3_add := goodIn_r _ [5, 6, 7, 8, 9, 10, 11, 12] (by decide +kernel) (by decide +kernel)
set_option maxRecDepth 20000 in
theorem gX3_addHomes_X3_add : GoodIn wsX3_addHomes (wsV RX3 35 RX3 yX3_add wsX3_add) := goodIn_app (goodIn_of _ (by decide +kernel)) ggX3_addHomes_X3_add
theorem dX3_addHomes_0 : decode cX3_addHomes 0 = .ok (.iload_n 2, 1) := by decide +kernel
theorem dX3_addHomes_1 : decode cX3_addHomes 1 = .ok (.iload_n 3, 1) := by decide +kernel
theorem dX3_addHomes_2 : decode cX3_addHomes 2 = .ok (.iadd, 1) := by decide +kernel
theorem dX3_addHomes_3 : decode cX3_addHomes 3 = .ok (.iload 4, 2) := by decide +kernel
theorem dX3_addHomes_5 : decode cX3_addHomes 5 = .ok (.iadd, 1) := by decide +kernel
theorem dX3_addHomes_6 : decode cX3_addHomes 6 = .ok (.iload 5, 2) := by decide +kernel
theorem dX3_addHomes_8 : decode cX3_addHomes 8 = .ok (.iadd, 1) := by decide +kernel
theorem dX3_addHomes_9 : decode cX3_addHomes 9 = .ok (.istore 6, 2) := by decide +kernel
theorem dX3_addHomes_11 : decode cX3_addHomes 11 = .ok (.iload 6, 2) := by decide +kernel
theorem dX3_addHomes_13 : decode cX3_addHomes 13 = .ok (.ifCond .lt 9, 3) := by decide +kernel
theorem dX3_addHomes_16 : decode cX3_addHomes 16 = .ok (.iload 6, 2) := by decide +kernel
theorem dX3_addHomes_18 : decode cX3_addHomes 18 = .ok (.iconst 3, 1) := by decide +kernel
theorem dX3_addHomes_19 : decode cX3_addHomes 19 = .ok (.if_icmp .le 4, 3) := by decide +kernel
theorem dX3_addHomes_22 : decode cX3_addHomes 22 = .ok (.return_, 1) := by decide +kernel
theorem dX3_addHomes_23 : decode cX3_addHomes 23 = .ok (.aload_n 0, 1) := by decide +kernel
theorem dX3_addHomes_24 : decode cX3_addHomes 24 = .ok (.iconst 1, 1) := by decide +kernel
theorem dX3_addHomes_25 : decode cX3_addHomes 25 = .ok (.iload 6, 2) := by decide +kernel
theorem dX3_addHomes_27 : decode cX3_addHomes 27 = .ok (.iadd, 1) := by decide +kernel
theorem dX3_addHomes_28 : decode cX3_addHomes 28 = .ok (.iload_n 1, 1) := by decide +kernel
theorem dX3_addHomes_29 : decode cX3_addHomes 29 = .ok (.invokevirtual 35, 3) := by decide +kernel
theorem dX3_addHomes_32 : decode cX3_addHomes 32 = .ok (.aload_n 0, 1) := by decide +kernel
theorem dX3_addHomes_33 : decode cX3_addHomes 33 = .ok (.iconst 5, 1) := by decide +kernel
theorem dX3_addHomes_34 : decode cX3_addHomes 34 = .ok (.iload_n 1, 1) := by decide +kernel
theorem dX3_addHomes_35 : decode cX3_addHomes 35 = .ok (.iload_n 2, 1) := by decide +kernel
theorem dX3_addHomes_36 : decode cX3_addHomes 36 = .ok (.imul, 1) := by decide +kernel
theorem dX3_addHomes_37 : decode cX3_addHomes 37 = .ok (.invokevirtual 35, 3) := by decide +kernel
theorem dX3_addHomes_40 : decode cX3_addHomes 40 = .ok (.aload_n 0, 1) := by decide +kernel
theorem dX3_addHomes_41 : decode cX3_addHomes 41 = .ok (.bipush 6, 2) := by decide +kernel
theorem dX3_addHomes_43 : decode cX3_addHomes 43 = .ok (.iload_n 1, 1) := by decide +kernel
theorem dX3_addHomes_44 : decode cX3_addHomes 44 = .ok (.iload_n 3, 1) := by decide +kernel
theorem dX3_addHomes_45 : decode cX3_addHomes 45 = .ok (.imul, 1) := by decide +kernel
theorem dX3_addHomes_46 : decode cX3_addHomes 46 = .ok (.invokevirtual 35, 3) := by decide +kernel
theorem dX3_addHomes_49 : decode cX3_addHomes 49 = .ok (.aload_n 0, 1) := by decide +kernel
theorem dX3_addHomes_50 : decode cX3_addHomes 50 = .ok (.bipush 7, 2) := by decide +kernel
theorem dX3_addHomes_52 : decode cX3_addHomes 52 = .ok (.iload_n 1, 1) := by decide +kernel
theorem dX3_addHomes_53 : decode cX3_addHomes 53 = .ok (.iload 4, 2) := by decide +kernel
theorem dX3_addHomes_55 : decode cX3_addHomes 55 = .ok (.imul, 1) := by decide +kernel
theorem dX3_addHomes_56 : decode cX3_addHomes 56 = .ok (.invokevirtual 35, 3) := by decide +kernel
theorem dX3_addHomes_59 : decode cX3_addHomes 59 = .ok (.aload_n 0, 1) := by decide +kernel
theorem dX3_addHomes_60 : decode cX3_addHomes 60 = .ok (.bipush 8, 2) := by decide +kernel
theorem dX3_addHomes_62 : decode cX3_addHomes 62 = .ok (.iload_n 1, 1) := by decide +kernel
theorem dX3_addHomes_63 : decode cX3_addHomes 63 = .ok (.iload 5, 2) := by decide +kernel
theorem dX3_addHomes_65 : decode cX3_addHomes 65 = .ok (.imul, 1) := by decide +kernel
theorem dX3_addHomes_66 : decode cX3_addHomes 66 = .ok (.invokevirtual 35, 3) := by decide +kernel
theorem dX3_addHomes_69 : decode cX3_addHomes 69 = .ok (.return_, 1) := by decide +kernel
theorem dX3_takeBack_0 : decode cX3_takeBack 0 = .ok (.iconst 0, 1) := by decide +kernel
theorem dX3_takeBack_1 : decode cX3_takeBack 1 = .ok (.istore_n 1, 1) := by decide +kernel
theorem dX3_takeBack_2 : decode cX3_takeBack 2 = .ok (.iload_n 1, 1) := by decide +kernel
theorem dX3_takeBack_3 : decode cX3_takeBack 3 = .ok (.bipush 10, 2) := by decide +kernel
theorem dX3_takeBack_5 : decode cX3_takeBack 5 = .ok (.if_icmp .ge 29, 3) := by decide +kernel
theorem dX3_takeBack_8 : decode cX3_takeBack 8 = .ok (.aload_n 0, 1) := by decide +kernel
theorem dX3_takeBack_9 : decode cX3_takeBack 9 = .ok (.getfield 9, 3) := by decide +kernel
theorem dX3_takeBack_12 : decode cX3_takeBack 12 = .ok (.iload_n 1, 1) := by decide +kernel
theorem dX3_takeBack_13 : decode cX3_takeBack 13 = .ok (.dup2, 1) := by decide +kernel
theorem dX3_takeBack_14 : decode cX3_takeBack 14 = .ok (.iaload, 1) := by decide +kernel
theorem dX3_takeBack_15 : decode cX3_takeBack 15 = .ok (.aload_n 0, 1) := by decide +kernel
theorem dX3_takeBack_16 : decode cX3_takeBack 16 = .ok (.getfield 15, 3) := by decide +kernel
theorem dX3_takeBack_19 : decode cX3_takeBack 19 = .ok (.aload_n 0, 1) := by decide +kernel
theorem dX3_takeBack_20 : decode cX3_takeBack 20 = .ok (.getfield 22, 3) := by decide +kernel
theorem dX3_takeBack_23 : decode cX3_takeBack 23 = .ok (.aaload, 1) := by decide +kernel
theorem dX3_takeBack_24 : decode cX3_takeBack 24 = .ok (.iload_n 1, 1) := by decide +kernel
theorem dX3_takeBack_25 : decode cX3_takeBack 25 = .ok (.iaload, 1) := by decide +kernel
theorem dX3_takeBack_26 : decode cX3_takeBack 26 = .ok (.isub, 1) := by decide +kernel
theorem dX3_takeBack_27 : decode cX3_takeBack 27 = .ok (.iastore, 1) := by decide +kernel
theorem dX3_takeBack_28 : decode cX3_takeBack 28 = .ok (.iinc 1 1, 3) := by decide +kernel
theorem dX3_takeBack_31 : decode cX3_takeBack 31 = .ok (.goto (-29), 3) := by decide +kernel
theorem dX3_takeBack_34 : decode cX3_takeBack 34 = .ok (.aload_n 0, 1) := by decide +kernel
theorem dX3_takeBack_35 : decode cX3_takeBack 35 = .ok (.aload_n 0, 1) := by decide +kernel
theorem dX3_takeBack_36 : decode cX3_takeBack 36 = .ok (.getfield 22, 3) := by decide +kernel
theorem dX3_takeBack_39 : decode cX3_takeBack 39 = .ok (.bipush 8, 2) := by decide +kernel
theorem dX3_takeBack_41 : decode cX3_takeBack 41 = .ok (.iadd, 1) := by decide +kernel
theorem dX3_takeBack_42 : decode cX3_takeBack 42 = .ok (.iconst 1, 1) := by decide +kernel
theorem dX3_takeBack_43 : decode cX3_takeBack 43 = .ok (.isub, 1) := by decide +kernel
theorem dX3_takeBack_44 : decode cX3_takeBack 44 = .ok (.bipush 8, 2) := by decide +kernel
theorem dX3_takeBack_46 : decode cX3_takeBack 46 = .ok (.irem, 1) := by decide +kernel
theorem dX3_takeBack_47 : decode cX3_takeBack 47 = .ok (.putfield 22, 3) := by decide +kernel
theorem dX3_takeBack_50 : decode cX3_takeBack 50 = .ok (.aload_n 0, 1) := by decide +kernel
theorem dX3_takeBack_51 : decode cX3_takeBack 51 = .ok (.dup, 1) := by decide +kernel
theorem dX3_takeBack_52 : decode cX3_takeBack 52 = .ok (.getfield 26, 3) := by decide +kernel
theorem dX3_takeBack_55 : decode cX3_takeBack 55 = .ok (.iconst 1, 1) := by decide +kernel
theorem dX3_takeBack_56 : decode cX3_takeBack 56 = .ok (.isub, 1) := by decide +kernel
theorem dX3_takeBack_57 : decode cX3_takeBack 57 = .ok (.putfield 26, 3) := by decide +kernel
theorem dX3_takeBack_60 : decode cX3_takeBack 60 = .ok (.return_, 1) := by decide +kernel
set_option maxRecDepth 20000 in
theorem ggX4_init_X4_settle : GoodIn wsX4_init wsX4_settle := goodIn_r _ [15, 5, 10, 16, 17, 18, 19, 14, 20, 21, 22, 23, 24, 25, 26, 7, 27, 28, 29, 30, 31, 32, 33, 34, 35, 36, 37] (by decide +kernel) (by decide +kernel)
set_option maxRecDepth 20000 in
theorem gX4_init_X4_settle : GoodIn wsX4_init (wsV RX4 27 RX4 yX4_settle wsX4_settle) := goodIn_app (goodIn_of _ (by decide +kernel)) ggX4_init_X4_settle
theorem dX4_init_0 : decode cX4_init 0 = .ok (.aload_n 0, 1) := by decide +kernel
theorem dX4_init_1 : decode cX4_init 1 = .ok (.invokespecial 3, 3) := by decide +kernel
theorem dX4_init_4 : decode cX4_init 4 = .ok (.aload_n 0, 1) := by decide +kernel
theorem dX4_init_5 : decode cX4_init 5 = .ok (.bipush 16, 2) := by decide +kernel
theorem dX4_init_7 : decode cX4_init 7 = .ok (.newarray .boolean, 2) := by decide +kernel
theorem dX4_init_9 : decode cX4_init 9 = .ok (.putfield 9, 3) := by decide +kernel
theorem dX4_init_12 : decode cX4_init 12 = .ok (.aload_n 0, 1) := by decide +kernel
theorem dX4_init_13 : decode cX4_init 13 = .ok (.bipush 64, 2) := by decide +kernel
theorem dX4_init_15 : decode cX4_init 15 = .ok (.newarray .long, 2) := by decide +kernel
theorem dX4_init_17 : decode cX4_init 17 = .ok (.putfield 15, 3) := by decide +kernel
theorem dX4_init_20 : decode cX4_init 20 = .ok (.aload_n 0, 1) := by decide +kernel
theorem dX4_init_21 : decode cX4_init 21 = .ok (.bipush 16, 2) := by decide +kernel
theorem dX4_init_23 : decode cX4_init 23 = .ok (.newarray .int, 2) := by decide +kernel
theorem dX4_init_25 : decode cX4_init 25 = .ok (.putfield 19, 3) := by decide +kernel
theorem dX4_init_28 : decode cX4_init 28 = .ok (.aload_n 0, 1) := by decide +kernel
theorem dX4_init_29 : decode cX4_init 29 = .ok (.aload_n 1, 1) := by decide +kernel
theorem dX4_init_30 : decode cX4_init 30 = .ok (.putfield 23, 3) := by decide +kernel
theorem dX4_init_33 : decode cX4_init 33 = .ok (.aload_n 0, 1) := by decide +kernel
theorem dX4_init_34 : decode cX4_init 34 = .ok (.invokevirtual 27, 3) := by decide +kernel
theorem dX4_init_37 : decode cX4_init 37 = .ok (.return_, 1) := by decide +kernel
set_option maxRecDepth 20000 in
theorem ggX4_settle_X4_weightOf : GoodIn wsX4_settle wsX4_weightOf := goodIn_r _ [8, 2, 9, 17, 18, 19, 20, 21, 22, 23, 24, 25, 26] (by decide +kernel) (by decide +kernel)
set_option maxRecDepth 20000 in
theorem gX4_settle_X4_weightOf : GoodIn wsX4_settle (wsV RX4 30 RX4 yX4_weightOf wsX4_weightOf) := goodIn_app (goodIn_of _ (by decide +kernel)) ggX4_settle_X4_weightOf
set_option maxRecDepth 20000 in
theorem ggX4_settle_X4_settleFactors : GoodIn wsX4_settle wsX4_settleFactors := goodIn_r _ [13, 2, 14, 3, 15, 16, 17, 18, 19, 20, 21, 22, 23, 24, 25, 26] (by decide +kernel) (by decide +kernel)
set_option maxRecDepth 20000 in
theorem gX4_settle_X4_settleFactors : GoodIn wsX4_settle (wsV RX4 39 RX4 yX4_settleFactors wsX4_settleFactors) := goodIn_app (goodIn_of _ (by decide +kernel)) ggX4_settle_X4_settleFactors
theorem dX4_settle_0 : decode cX4_settle 0 = .ok (.iconst 0, 1) := by decide +kernel
theorem dX4_settle_1 : decode cX4_settle 1 = .ok (.istore_n 1, 1) := by decide +kernel
theorem dX4_settle_2 : decode cX4_settle 2 = .ok (.iload_n 1, 1) := by decide +kernel
theorem dX4_settle_3 : decode cX4_settle 3 = .ok (.bipush 16, 2) := by decide +kernel
theorem dX4_settle_5 : decode cX4_settle 5 = .ok (.if_icmp .ge 47, 3) := by decide +kernel
theorem dX4_settle_8 : decode cX4_settle 8 = .ok (.aload_n 0, 1) := by decide +kernel
theorem dX4_settle_9 : decode cX4_settle 9 = .ok (.iload_n 1, 1) := by decide +kernel
theorem dX4_settle_10 : decode cX4_settle 10 = .ok (.invokevirtual 30, 3) := by decide +kernel
theorem dX4_settle_13 : decode cX4_settle 13 = .ok (.istore_n 2, 1) := by decide +kernel
theorem dX4_settle_14 : decode cX4_settle 14 = .ok (.aload_n 0, 1) := by decide +kernel
theorem dX4_settle_15 : decode cX4_settle 15 = .ok (.getfield 9, 3) := by decide +kernel
theorem dX4_settle_18 : decode cX4_settle 18 = .ok (.iload_n 1, 1) := by decide +kernel
theorem dX4_settle_19 : decode cX4_settle 19 = .ok (.iload_n 2, 1) := by decide +kernel
theorem dX4_settle_20 : decode cX4_settle 20 = .ok (.aload_n 0, 1) := by decide +kernel
theorem dX4_settle_21 : decode cX4_settle 21 = .ok (.getfield 23, 3) := by decide +kernel
theorem dX4_settle_24 : decode cX4_settle 24 = .ok (.getfield 34, 3) := by decide +kernel
theorem dX4_settle_27 : decode cX4_settle 27 = .ok (.bipush 6, 2) := by decide +kernel
theorem dX4_settle_29 : decode cX4_settle 29 = .ok (.iaload, 1) := by decide +kernel
theorem dX4_settle_30 : decode cX4_settle 30 = .ok (.if_icmp .gt 7, 3) := by decide +kernel
theorem dX4_settle_33 : decode cX4_settle 33 = .ok (.iconst 1, 1) := by decide +kernel
theorem dX4_settle_34 : decode cX4_settle 34 = .ok (.goto 4, 3) := by decide +kernel
theorem dX4_settle_37 : decode cX4_settle 37 = .ok (.iconst 0, 1) := by decide +kernel
theorem dX4_settle_38 : decode cX4_settle 38 = .ok (.bastore, 1) := by decide +kernel
theorem dX4_settle_39 : decode cX4_settle 39 = .ok (.aload_n 0, 1) := by decide +kernel
theorem dX4_settle_40 : decode cX4_settle 40 = .ok (.iload_n 1, 1) := by decide +kernel
theorem dX4_settle_41 : decode cX4_settle 41 = .ok (.iload_n 2, 1) := by decide +kernel
theorem dX4_settle_42 : decode cX4_settle 42 = .ok (.i2l, 1) := by decide +kernel
theorem dX4_settle_43 : decode cX4_settle 43 = .ok (.invokevirtual 39, 3) := by decide +kernel
theorem dX4_settle_46 : decode cX4_settle 46 = .ok (.iinc 1 1, 3) := by decide +kernel
theorem dX4_settle_49 : decode cX4_settle 49 = .ok (.goto (-47), 3) := by decide +kernel
theorem dX4_settle_52 : decode cX4_settle 52 = .ok (.return_, 1) := by decide +kernel
set_option maxRecDepth 20000 in
theorem ggX4_standAll_X8_stand : GoodIn wsX4_standAll wsX8_stand := goodIn_r _ [7, 8, 9, 10, 11, 12, 13, 6, 14, 15, 21, 22, 23, 24, 25, 26] (by decide +kernel) (by decide +kernel)
set_option maxRecDepth 20000 in
theorem gX4_standAll_X8_stand : GoodIn wsX4_standAll (wsV RX4 43 RX8 yX8_stand wsX8_stand) := goodIn_app (goodIn_of _ (by decide +kernel)) ggX4_standAll_X8_stand
set_option maxRecDepth 20000 in
theorem ggX4_standAll_X9_figure : GoodIn wsX4_standAll wsX9_figure := goodIn_r _ [10] (by decide +kernel) (by decide +kernel)
set_option maxRecDepth 20000 in
theorem gX4_standAll_X9_figure_n46 : GoodIn wsX4_standAll (wsX9_figure) := ggX4_standAll_X9_figure
set_option maxRecDepth 20000 in
theorem ggX4_standAll_X8_partStand : GoodIn wsX4_standAll wsX8_partStand := goodIn_r _ [14, 15, 21, 22, 23, 24, 25, 26] (by decide +kernel) (by decide +kernel)
set_option maxRecDepth 20000 in
theorem gX4_standAll_X8_partStand : GoodIn wsX4_standAll (wsV RX4 50 RX8 yX8_partStand wsX8_partStand) := goodIn_app (goodIn_of _ (by decide +kernel)) ggX4_standAll_X8_partStand
theorem dX4_standAll_0 : decode cX4_standAll 0 = .ok (.aload_n 0, 1) := by decide +kernel
theorem dX4_standAll_1 : decode cX4_standAll 1 = .ok (.getfield 19, 3) := by decide +kernel
theorem dX4_standAll_4 : decode cX4_standAll 4 = .ok (.iconst 0, 1) := by decide +kernel
theorem dX4_standAll_5 : decode cX4_standAll 5 = .ok (.aload_n 0, 1) := by decide +kernel
theorem dX4_standAll_6 : decode cX4_standAll 6 = .ok (.getfield 23, 3) := by decide +kernel
theorem dX4_standAll_9 : decode cX4_standAll 9 = .ok (.iload_n 1, 1) := by decide +kernel
theorem dX4_standAll_10 : decode cX4_standAll 10 = .ok (.invokevirtual 43, 3) := by decide +kernel
theorem dX4_standAll_13 : decode cX4_standAll 13 = .ok (.iastore, 1) := by decide +kernel
theorem dX4_standAll_14 : decode cX4_standAll 14 = .ok (.iconst 0, 1) := by decide +kernel
theorem dX4_standAll_15 : decode cX4_standAll 15 = .ok (.istore_n 2, 1) := by decide +kernel
theorem dX4_standAll_16 : decode cX4_standAll 16 = .ok (.iload_n 2, 1) := by decide +kernel
theorem dX4_standAll_17 : decode cX4_standAll 17 = .ok (.iconst 4, 1) := by decide +kernel
theorem dX4_standAll_18 : decode cX4_standAll 18 = .ok (.if_icmp .ge 79, 3) := by decide +kernel
theorem dX4_standAll_21 : decode cX4_standAll 21 = .ok (.iload_n 1, 1) := by decide +kernel
theorem dX4_standAll_22 : decode cX4_standAll 22 = .ok (.iload_n 2, 1) := by decide +kernel
theorem dX4_standAll_23 : decode cX4_standAll 23 = .ok (.invokestatic 46, 3) := by decide +kernel
theorem dX4_standAll_26 : decode cX4_standAll 26 = .ok (.istore_n 3, 1) := by decide +kernel
theorem dX4_standAll_27 : decode cX4_standAll 27 = .ok (.aload_n 0, 1) := by decide +kernel
theorem dX4_standAll_28 : decode cX4_standAll 28 = .ok (.getfield 23, 3) := by decide +kernel
theorem dX4_standAll_31 : decode cX4_standAll 31 = .ok (.iload_n 2, 1) := by decide +kernel
theorem dX4_standAll_32 : decode cX4_standAll 32 = .ok (.iload_n 3, 1) := by decide +kernel
theorem dX4_standAll_33 : decode cX4_standAll 33 = .ok (.iconst 2, 1) := by decide +kernel
theorem dX4_standAll_34 : decode cX4_standAll 34 = .ok (.idiv, 1) := by decide +kernel
theorem dX4_standAll_35 : decode cX4_standAll 35 = .ok (.invokevirtual 50, 3) := by decide +kernel
theorem dX4_standAll_38 : decode cX4_standAll 38 = .ok (.aload_n 0, 1) := by decide +kernel
theorem dX4_standAll_39 : decode cX4_standAll 39 = .ok (.getfield 23, 3) := by decide +kernel
theorem dX4_standAll_42 : decode cX4_standAll 42 = .ok (.iload_n 2, 1) := by decide +kernel
theorem dX4_standAll_43 : decode cX4_standAll 43 = .ok (.iload_n 3, 1) := by decide +kernel
theorem dX4_standAll_44 : decode cX4_standAll 44 = .ok (.invokevirtual 50, 3) := by decide +kernel
theorem dX4_standAll_47 : decode cX4_standAll 47 = .ok (.isub, 1) := by decide +kernel
theorem dX4_standAll_48 : decode cX4_standAll 48 = .ok (.istore 4, 2) := by decide +kernel
theorem dX4_standAll_50 : decode cX4_standAll 50 = .ok (.iconst 1, 1) := by decide +kernel
theorem dX4_standAll_51 : decode cX4_standAll 51 = .ok (.iload_n 2, 1) := by decide +kernel
theorem dX4_standAll_52 : decode cX4_standAll 52 = .ok (.ishl, 1) := by decide +kernel
theorem dX4_standAll_53 : decode cX4_standAll 53 = .ok (.istore 5, 2) := by decide +kernel
theorem dX4_standAll_55 : decode cX4_standAll 55 = .ok (.iconst 0, 1) := by decide +kernel
theorem dX4_standAll_56 : decode cX4_standAll 56 = .ok (.istore 6, 2) := by decide +kernel
theorem dX4_standAll_58 : decode cX4_standAll 58 = .ok (.iload 6, 2) := by decide +kernel
theorem dX4_standAll_60 : decode cX4_standAll 60 = .ok (.iload 5, 2) := by decide +kernel
theorem dX4_standAll_62 : decode cX4_standAll 62 = .ok (.if_icmp .ge 29, 3) := by decide +kernel
theorem dX4_standAll_65 : decode cX4_standAll 65 = .ok (.aload_n 0, 1) := by decide +kernel
theorem dX4_standAll_66 : decode cX4_standAll 66 = .ok (.getfield 19, 3) := by decide +kernel
theorem dX4_standAll_69 : decode cX4_standAll 69 = .ok (.iload 5, 2) := by decide +kernel
theorem dX4_standAll_71 : decode cX4_standAll 71 = .ok (.iload 6, 2) := by decide +kernel
theorem dX4_standAll_73 : decode cX4_standAll 73 = .ok (.iadd, 1) := by decide +kernel
theorem dX4_standAll_74 : decode cX4_standAll 74 = .ok (.aload_n 0, 1) := by decide +kernel
theorem dX4_standAll_75 : decode cX4_standAll 75 = .ok (.getfield 19, 3) := by decide +kernel
theorem dX4_standAll_78 : decode cX4_standAll 78 = .ok (.iload 6, 2) := by decide +kernel
theorem dX4_standAll_80 : decode cX4_standAll 80 = .ok (.iaload, 1) := by decide +kernel
theorem dX4_standAll_81 : decode cX4_standAll 81 = .ok (.iload 4, 2) := by decide +kernel
theorem dX4_standAll_83 : decode cX4_standAll 83 = .ok (.iadd, 1) := by decide +kernel
theorem dX4_standAll_84 : decode cX4_standAll 84 = .ok (.iastore, 1) := by decide +kernel
theorem dX4_standAll_85 : decode cX4_standAll 85 = .ok (.iinc 6 1, 3) := by decide +kernel
theorem dX4_standAll_88 : decode cX4_standAll 88 = .ok (.goto (-30), 3) := by decide +kernel
theorem dX4_standAll_91 : decode cX4_standAll 91 = .ok (.iinc 2 1, 3) := by decide +kernel
theorem dX4_standAll_94 : decode cX4_standAll 94 = .ok (.goto (-78), 3) := by decide +kernel
theorem dX4_standAll_97 : decode cX4_standAll 97 = .ok (.return_, 1) := by decide +kernel
set_option maxRecDepth 20000 in
theorem ggX4_homesBy_X4_standAll : GoodIn wsX4_homesBy wsX4_standAll := goodIn_r _ [6, 1, 7, 8, 9, 10, 11, 12, 13, 14, 15, 16, 17, 18, 19, 20, 21, 27, 28, 29, 30, 31, 32, 33, 34, 35, 36] (by decide +kernel) (by decide +kernel)
set_option maxRecDepth 20000 in
theorem gX4_homesBy_X4_standAll : GoodIn wsX4_homesBy (wsV RX4 53 RX4 yX4_standAll wsX4_standAll) := goodIn_app (goodIn_of _ (by decide +kernel)) ggX4_homesBy_X4_standAll
set_option maxRecDepth 20000 in
theorem ggX4_homesBy_X4_homesAt : GoodIn wsX4_homesBy wsX4_homesAt := goodIn_r _ [25, 26, 27, 28, 29, 30] (by decide +kernel) (by decide +kernel)
set_option maxRecDepth 20000 in
theorem gX4_homesBy_X4_homesAt : GoodIn wsX4_homesBy (wsV RX4 57 RX4 yX4_homesAt wsX4_homesAt) := goodIn_app (goodIn_of _ (by decide +kernel)) ggX4_homesBy_X4_homesAt
theorem dX4_homesBy_0 : decode cX4_homesBy 0 = .ok (.aload_n 0, 1) := by decide +kernel
theorem dX4_homesBy_1 : decode cX4_homesBy 1 = .ok (.iload_n 1, 1) := by decide +kernel
theorem dX4_homesBy_2 : decode cX4_homesBy 2 = .ok (.invokevirtual 53, 3) := by decide +kernel
theorem dX4_homesBy_5 : decode cX4_homesBy 5 = .ok (.aload_n 0, 1) := by decide +kernel
theorem dX4_homesBy_6 : decode cX4_homesBy 6 = .ok (.iload_n 2, 1) := by decide +kernel
theorem dX4_homesBy_7 : decode cX4_homesBy 7 = .ok (.aload_n 0, 1) := by decide +kernel
theorem dX4_homesBy_8 : decode cX4_homesBy 8 = .ok (.getfield 19, 3) := by decide +kernel
theorem dX4_homesBy_11 : decode cX4_homesBy 11 = .ok (.iload_n 2, 1) := by decide +kernel
theorem dX4_homesBy_12 : decode cX4_homesBy 12 = .ok (.iaload, 1) := by decide +kernel
theorem dX4_homesBy_13 : decode cX4_homesBy 13 = .ok (.i2l, 1) := by decide +kernel
theorem dX4_homesBy_14 : decode cX4_homesBy 14 = .ok (.invokevirtual 57, 3) := by decide +kernel
theorem dX4_homesBy_17 : decode cX4_homesBy 17 = .ok (.lreturn, 1) := by decide +kernel
set_option maxRecDepth 20000 in
theorem ggX4_bestFor_X4_standAll : GoodIn wsX4_bestFor wsX4_standAll := goodIn_r _ [6, 1, 7, 8, 9, 10, 11, 12, 13, 14, 15, 16, 17, 18, 19, 20, 21, 33, 34, 35, 36, 37, 38, 39, 40, 41, 42] (by decide +kernel) (by decide +kernel)
set_option maxRecDepth 20000 in
theorem gX4_bestFor_X4_standAll : GoodIn wsX4_bestFor (wsV RX4 53 RX4 yX4_standAll wsX4_standAll) := goodIn_app (goodIn_of _ (by decide +kernel)) ggX4_bestFor_X4_standAll
set_option maxRecDepth 20000 in
theorem ggX4_bestFor_X4_mostHomes : GoodIn wsX4_bestFor wsX4_mostHomes := goodIn_r _ [25, 26, 27, 28, 29, 30, 5, 31, 32, 33, 34, 35, 36] (by decide +kernel) (by decide +kernel)
set_option maxRecDepth 20000 in
theorem gX4_bestFor_X4_mostHomes : GoodIn wsX4_bestFor (wsV RX4 61 RX4 yX4_mostHomes wsX4_mostHomes) := goodIn_app (goodIn_of _ (by decide +kernel)) ggX4_bestFor_X4_mostHomes
theorem dX4_bestFor_0 : decode cX4_bestFor 0 = .ok (.aload_n 0, 1) := by decide +kernel
theorem dX4_bestFor_1 : decode cX4_bestFor 1 = .ok (.iload_n 1, 1) := by decide +kernel
theorem dX4_bestFor_2 : decode cX4_bestFor 2 = .ok (.invokevirtual 53, 3) := by decide +kernel
theorem dX4_bestFor_5 : decode cX4_bestFor 5 = .ok (.aload_n 0, 1) := by decide +kernel
theorem dX4_bestFor_6 : decode cX4_bestFor 6 = .ok (.aload_n 0, 1) := by decide +kernel
theorem dX4_bestFor_7 : decode cX4_bestFor 7 = .ok (.getfield 19, 3) := by decide +kernel
theorem dX4_bestFor_10 : decode cX4_bestFor 10 = .ok (.invokevirtual 61, 3) := by decide +kernel
theorem dX4_bestFor_13 : decode cX4_bestFor 13 = .ok (.ireturn, 1) := by decide +kernel
set_option maxRecDepth 20000 in
theorem ggX4_mostHomes_X4_homesAt : GoodIn wsX4_mostHomes wsX4_homesAt := goodIn_r _ [7, 8, 9, 10, 11, 12] (by decide +kernel) (by decide +kernel)
set_option maxRecDepth 20000 in
theorem gX4_mostHomes_X4_homesAt : GoodIn wsX4_mostHomes (wsV RX4 57 RX4 yX4_homesAt wsX4_homesAt) := goodIn_app (goodIn_of _ (by decide +kernel)) ggX4_mostHomes_X4_homesAt
theorem dX4_mostHomes_0 : decode cX4_mostHomes 0 = .ok (.iconst 0, 1) := by decide +kernel
theorem dX4_mostHomes_1 : decode cX4_mostHomes 1 = .ok (.istore_n 2, 1) := by decide +kernel
theorem dX4_mostHomes_2 : decode cX4_mostHomes 2 = .ok (.ldc2_w 65, 3) := by decide +kernel
theorem dX4_mostHomes_5 : decode cX4_mostHomes 5 = .ok (.lstore_n 3, 1) := by decide +kernel
theorem dX4_mostHomes_6 : decode cX4_mostHomes 6 = .ok (.iconst 0, 1) := by decide +kernel
theorem dX4_mostHomes_7 : decode cX4_mostHomes 7 = .ok (.istore 5, 2) := by decide +kernel
theorem dX4_mostHomes_9 : decode cX4_mostHomes 9 = .ok (.iload 5, 2) := by decide +kernel
theorem dX4_mostHomes_11 : decode cX4_mostHomes 11 = .ok (.bipush 16, 2) := by decide +kernel
theorem dX4_mostHomes_13 : decode cX4_mostHomes 13 = .ok (.if_icmp .ge 45, 3) := by decide +kernel
theorem dX4_mostHomes_16 : decode cX4_mostHomes 16 = .ok (.aload_n 0, 1) := by decide +kernel
theorem dX4_mostHomes_17 : decode cX4_mostHomes 17 = .ok (.getfield 9, 3) := by decide +kernel
theorem dX4_mostHomes_20 : decode cX4_mostHomes 20 = .ok (.iload 5, 2) := by decide +kernel
theorem dX4_mostHomes_22 : decode cX4_mostHomes 22 = .ok (.baload, 1) := by decide +kernel
theorem dX4_mostHomes_23 : decode cX4_mostHomes 23 = .ok (.ifCond .eq 29, 3) := by decide +kernel
theorem dX4_mostHomes_26 : decode cX4_mostHomes 26 = .ok (.aload_n 0, 1) := by decide +kernel
theorem dX4_mostHomes_27 : decode cX4_mostHomes 27 = .ok (.iload 5, 2) := by decide +kernel
theorem dX4_mostHomes_29 : decode cX4_mostHomes 29 = .ok (.aload_n 1, 1) := by decide +kernel
theorem dX4_mostHomes_30 : decode cX4_mostHomes 30 = .ok (.iload 5, 2) := by decide +kernel
theorem dX4_mostHomes_32 : decode cX4_mostHomes 32 = .ok (.iaload, 1) := by decide +kernel
theorem dX4_mostHomes_33 : decode cX4_mostHomes 33 = .ok (.i2l, 1) := by decide +kernel
theorem dX4_mostHomes_34 : decode cX4_mostHomes 34 = .ok (.invokevirtual 57, 3) := by decide +kernel
theorem dX4_mostHomes_37 : decode cX4_mostHomes 37 = .ok (.lstore 6, 2) := by decide +kernel
theorem dX4_mostHomes_39 : decode cX4_mostHomes 39 = .ok (.lload 6, 2) := by decide +kernel
theorem dX4_mostHomes_41 : decode cX4_mostHomes 41 = .ok (.lload_n 3, 1) := by decide +kernel
theorem dX4_mostHomes_42 : decode cX4_mostHomes 42 = .ok (.lcmp, 1) := by decide +kernel
theorem dX4_mostHomes_43 : decode cX4_mostHomes 43 = .ok (.ifCond .le 9, 3) := by decide +kernel
theorem dX4_mostHomes_46 : decode cX4_mostHomes 46 = .ok (.lload 6, 2) := by decide +kernel
theorem dX4_mostHomes_48 : decode cX4_mostHomes 48 = .ok (.lstore_n 3, 1) := by decide +kernel
theorem dX4_mostHomes_49 : decode cX4_mostHomes 49 = .ok (.iload 5, 2) := by decide +kernel
theorem dX4_mostHomes_51 : decode cX4_mostHomes 51 = .ok (.istore_n 2, 1) := by decide +kernel
theorem dX4_mostHomes_52 : decode cX4_mostHomes 52 = .ok (.iinc 5 1, 3) := by decide +kernel
theorem dX4_mostHomes_55 : decode cX4_mostHomes 55 = .ok (.goto (-46), 3) := by decide +kernel
theorem dX4_mostHomes_58 : decode cX4_mostHomes 58 = .ok (.iload_n 2, 1) := by decide +kernel
theorem dX4_mostHomes_59 : decode cX4_mostHomes 59 = .ok (.ireturn, 1) := by decide +kernel
set_option maxRecDepth 20000 in
theorem ggX4_drawnFrom_X4_mostHoles : GoodIn wsX4_drawnFrom wsX4_mostHoles := goodIn_r _ [6, 7, 8, 9, 10, 11, 12, 13, 14, 15, 16, 17, 18, 19, 20, 21, 22, 23, 24, 25, 26, 27, 28, 29, 30, 31, 32] (by decide +kernel) (by decide +kernel)
set_option maxRecDepth 20000 in
theorem gX4_drawnFrom_X4_mostHoles : GoodIn wsX4_drawnFrom (wsV RX4 67 RX4 yX4_mostHoles wsX4_mostHoles) := goodIn_app (goodIn_of _ (by decide +kernel)) ggX4_drawnFrom_X4_mostHoles
theorem dX4_drawnFrom_0 : decode cX4_drawnFrom 0 = .ok (.iconst 0, 1) := by decide +kernel
theorem dX4_drawnFrom_1 : decode cX4_drawnFrom 1 = .ok (.istore_n 2, 1) := by decide +kernel
theorem dX4_drawnFrom_2 : decode cX4_drawnFrom 2 = .ok (.iconst 0, 1) := by decide +kernel
theorem dX4_drawnFrom_3 : decode cX4_drawnFrom 3 = .ok (.istore_n 3, 1) := by decide +kernel
theorem dX4_drawnFrom_4 : decode cX4_drawnFrom 4 = .ok (.iconst 0, 1) := by decide +kernel
theorem dX4_drawnFrom_5 : decode cX4_drawnFrom 5 = .ok (.istore 4, 2) := by decide +kernel
theorem dX4_drawnFrom_7 : decode cX4_drawnFrom 7 = .ok (.iload 4, 2) := by decide +kernel
theorem dX4_drawnFrom_9 : decode cX4_drawnFrom 9 = .ok (.iconst 4, 1) := by decide +kernel
theorem dX4_drawnFrom_10 : decode cX4_drawnFrom 10 = .ok (.if_icmp .ge 45, 3) := by decide +kernel
theorem dX4_drawnFrom_13 : decode cX4_drawnFrom 13 = .ok (.aload_n 0, 1) := by decide +kernel
theorem dX4_drawnFrom_14 : decode cX4_drawnFrom 14 = .ok (.aload_n 1, 1) := by decide +kernel
theorem dX4_drawnFrom_15 : decode cX4_drawnFrom 15 = .ok (.iload_n 2, 1) := by decide +kernel
theorem dX4_drawnFrom_16 : decode cX4_drawnFrom 16 = .ok (.invokevirtual 67, 3) := by decide +kernel
theorem dX4_drawnFrom_19 : decode cX4_drawnFrom 19 = .ok (.istore 5, 2) := by decide +kernel
theorem dX4_drawnFrom_21 : decode cX4_drawnFrom 21 = .ok (.iload_n 2, 1) := by decide +kernel
theorem dX4_drawnFrom_22 : decode cX4_drawnFrom 22 = .ok (.iconst 1, 1) := by decide +kernel
theorem dX4_drawnFrom_23 : decode cX4_drawnFrom 23 = .ok (.iload 5, 2) := by decide +kernel
theorem dX4_drawnFrom_25 : decode cX4_drawnFrom 25 = .ok (.ishl, 1) := by decide +kernel
theorem dX4_drawnFrom_26 : decode cX4_drawnFrom 26 = .ok (.ior, 1) := by decide +kernel
theorem dX4_drawnFrom_27 : decode cX4_drawnFrom 27 = .ok (.istore_n 2, 1) := by decide +kernel
theorem dX4_drawnFrom_28 : decode cX4_drawnFrom 28 = .ok (.aload_n 0, 1) := by decide +kernel
theorem dX4_drawnFrom_29 : decode cX4_drawnFrom 29 = .ok (.getfield 9, 3) := by decide +kernel
theorem dX4_drawnFrom_32 : decode cX4_drawnFrom 32 = .ok (.iload_n 3, 1) := by decide +kernel
theorem dX4_drawnFrom_33 : decode cX4_drawnFrom 33 = .ok (.iconst 1, 1) := by decide +kernel
theorem dX4_drawnFrom_34 : decode cX4_drawnFrom 34 = .ok (.iload 5, 2) := by decide +kernel
theorem dX4_drawnFrom_36 : decode cX4_drawnFrom 36 = .ok (.ishl, 1) := by decide +kernel
theorem dX4_drawnFrom_37 : decode cX4_drawnFrom 37 = .ok (.ior, 1) := by decide +kernel
theorem dX4_drawnFrom_38 : decode cX4_drawnFrom 38 = .ok (.baload, 1) := by decide +kernel
theorem dX4_drawnFrom_39 : decode cX4_drawnFrom 39 = .ok (.ifCond .eq 10, 3) := by decide +kernel
theorem dX4_drawnFrom_42 : decode cX4_drawnFrom 42 = .ok (.iload_n 3, 1) := by decide +kernel
theorem dX4_drawnFrom_43 : decode cX4_drawnFrom 43 = .ok (.iconst 1, 1) := by decide +kernel
theorem dX4_drawnFrom_44 : decode cX4_drawnFrom 44 = .ok (.iload 5, 2) := by decide +kernel
theorem dX4_drawnFrom_46 : decode cX4_drawnFrom 46 = .ok (.ishl, 1) := by decide +kernel
theorem dX4_drawnFrom_47 : decode cX4_drawnFrom 47 = .ok (.ior, 1) := by decide +kernel
theorem dX4_drawnFrom_48 : decode cX4_drawnFrom 48 = .ok (.istore_n 3, 1) := by decide +kernel
theorem dX4_drawnFrom_49 : decode cX4_drawnFrom 49 = .ok (.iinc 4 1, 3) := by decide +kernel
theorem dX4_drawnFrom_52 : decode cX4_drawnFrom 52 = .ok (.goto (-45), 3) := by decide +kernel
theorem dX4_drawnFrom_55 : decode cX4_drawnFrom 55 = .ok (.iload_n 3, 1) := by decide +kernel
theorem dX4_drawnFrom_56 : decode cX4_drawnFrom 56 = .ok (.ireturn, 1) := by decide +kernel
set_option maxRecDepth 20000 in
theorem ggX4_mostHoles_X3_inPart : GoodIn wsX4_mostHoles wsX3_inPart := goodIn_r _ [11, 12, 23, 24, 25, 26] (by decide +kernel) (by decide +kernel)
set_option maxRecDepth 20000 in
theorem gX4_mostHoles_X3_inPart : GoodIn wsX4_mostHoles (wsV RX4 71 RX3 yX3_inPart wsX3_inPart) := goodIn_app (goodIn_of _ (by decide +kernel)) ggX4_mostHoles_X3_inPart
theorem dX4_mostHoles_0 : decode cX4_mostHoles 0 = .ok (.iconst (-1), 1) := by decide +kernel
theorem dX4_mostHoles_1 : decode cX4_mostHoles 1 = .ok (.istore_n 3, 1) := by decide +kernel
theorem dX4_mostHoles_2 : decode cX4_mostHoles 2 = .ok (.iconst 0, 1) := by decide +kernel
theorem dX4_mostHoles_3 : decode cX4_mostHoles 3 = .ok (.istore 4, 2) := by decide +kernel
theorem dX4_mostHoles_5 : decode cX4_mostHoles 5 = .ok (.iload 4, 2) := by decide +kernel
theorem dX4_mostHoles_7 : decode cX4_mostHoles 7 = .ok (.iconst 4, 1) := by decide +kernel
theorem dX4_mostHoles_8 : decode cX4_mostHoles 8 = .ok (.if_icmp .ge 60, 3) := by decide +kernel
theorem dX4_mostHoles_11 : decode cX4_mostHoles 11 = .ok (.iload_n 2, 1) := by decide +kernel
theorem dX4_mostHoles_12 : decode cX4_mostHoles 12 = .ok (.iload 4, 2) := by decide +kernel
theorem dX4_mostHoles_14 : decode cX4_mostHoles 14 = .ok (.ishr, 1) := by decide +kernel
theorem dX4_mostHoles_15 : decode cX4_mostHoles 15 = .ok (.iconst 1, 1) := by decide +kernel
theorem dX4_mostHoles_16 : decode cX4_mostHoles 16 = .ok (.iand, 1) := by decide +kernel
theorem dX4_mostHoles_17 : decode cX4_mostHoles 17 = .ok (.ifCond .ne 45, 3) := by decide +kernel
theorem dX4_mostHoles_20 : decode cX4_mostHoles 20 = .ok (.iload_n 3, 1) := by decide +kernel
theorem dX4_mostHoles_21 : decode cX4_mostHoles 21 = .ok (.ifCond .lt 38, 3) := by decide +kernel
theorem dX4_mostHoles_24 : decode cX4_mostHoles 24 = .ok (.aload_n 1, 1) := by decide +kernel
theorem dX4_mostHoles_25 : decode cX4_mostHoles 25 = .ok (.iload 4, 2) := by decide +kernel
theorem dX4_mostHoles_27 : decode cX4_mostHoles 27 = .ok (.invokevirtual 71, 3) := by decide +kernel
theorem dX4_mostHoles_30 : decode cX4_mostHoles 30 = .ok (.aload_n 0, 1) := by decide +kernel
theorem dX4_mostHoles_31 : decode cX4_mostHoles 31 = .ok (.getfield 23, 3) := by decide +kernel
theorem dX4_mostHoles_34 : decode cX4_mostHoles 34 = .ok (.getfield 76, 3) := by decide +kernel
theorem dX4_mostHoles_37 : decode cX4_mostHoles 37 = .ok (.iload_n 3, 1) := by decide +kernel
theorem dX4_mostHoles_38 : decode cX4_mostHoles 38 = .ok (.iaload, 1) := by decide +kernel
theorem dX4_mostHoles_39 : decode cX4_mostHoles 39 = .ok (.imul, 1) := by decide +kernel
theorem dX4_mostHoles_40 : decode cX4_mostHoles 40 = .ok (.aload_n 1, 1) := by decide +kernel
theorem dX4_mostHoles_41 : decode cX4_mostHoles 41 = .ok (.iload_n 3, 1) := by decide +kernel
theorem dX4_mostHoles_42 : decode cX4_mostHoles 42 = .ok (.invokevirtual 71, 3) := by decide +kernel
theorem dX4_mostHoles_45 : decode cX4_mostHoles 45 = .ok (.aload_n 0, 1) := by decide +kernel
theorem dX4_mostHoles_46 : decode cX4_mostHoles 46 = .ok (.getfield 23, 3) := by decide +kernel
theorem dX4_mostHoles_49 : decode cX4_mostHoles 49 = .ok (.getfield 76, 3) := by decide +kernel
theorem dX4_mostHoles_52 : decode cX4_mostHoles 52 = .ok (.iload 4, 2) := by decide +kernel
theorem dX4_mostHoles_54 : decode cX4_mostHoles 54 = .ok (.iaload, 1) := by decide +kernel
theorem dX4_mostHoles_55 : decode cX4_mostHoles 55 = .ok (.imul, 1) := by decide +kernel
theorem dX4_mostHoles_56 : decode cX4_mostHoles 56 = .ok (.if_icmp .le 6, 3) := by decide +kernel
theorem dX4_mostHoles_59 : decode cX4_mostHoles 59 = .ok (.iload 4, 2) := by decide +kernel
theorem dX4_mostHoles_61 : decode cX4_mostHoles 61 = .ok (.istore_n 3, 1) := by decide +kernel
theorem dX4_mostHoles_62 : decode cX4_mostHoles 62 = .ok (.iinc 4 1, 3) := by decide +kernel
theorem dX4_mostHoles_65 : decode cX4_mostHoles 65 = .ok (.goto (-60), 3) := by decide +kernel
theorem dX4_mostHoles_68 : decode cX4_mostHoles 68 = .ok (.iload_n 3, 1) := by decide +kernel
theorem dX4_mostHoles_69 : decode cX4_mostHoles 69 = .ok (.iconst 0, 1) := by decide +kernel
theorem dX4_mostHoles_70 : decode cX4_mostHoles 70 = .ok (.invokestatic 79, 3) := by decide +kernel
theorem dX4_mostHoles_73 : decode cX4_mostHoles 73 = .ok (.ireturn, 1) := by decide +kernel
theorem dX4_weightOf_0 : decode cX4_weightOf 0 = .ok (.iconst 0, 1) := by decide +kernel
theorem dX4_weightOf_1 : decode cX4_weightOf 1 = .ok (.istore_n 2, 1) := by decide +kernel
theorem dX4_weightOf_2 : decode cX4_weightOf 2 = .ok (.iconst 0, 1) := by decide +kernel
theorem dX4_weightOf_3 : decode cX4_weightOf 3 = .ok (.istore_n 3, 1) := by decide +kernel
theorem dX4_weightOf_4 : decode cX4_weightOf 4 = .ok (.iload_n 3, 1) := by decide +kernel
theorem dX4_weightOf_5 : decode cX4_weightOf 5 = .ok (.iconst 4, 1) := by decide +kernel
theorem dX4_weightOf_6 : decode cX4_weightOf 6 = .ok (.if_icmp .ge 37, 3) := by decide +kernel
theorem dX4_weightOf_9 : decode cX4_weightOf 9 = .ok (.iload_n 2, 1) := by decide +kernel
theorem dX4_weightOf_10 : decode cX4_weightOf 10 = .ok (.iload_n 1, 1) := by decide +kernel
theorem dX4_weightOf_11 : decode cX4_weightOf 11 = .ok (.iload_n 3, 1) := by decide +kernel
theorem dX4_weightOf_12 : decode cX4_weightOf 12 = .ok (.ishr, 1) := by decide +kernel
theorem dX4_weightOf_13 : decode cX4_weightOf 13 = .ok (.iconst 1, 1) := by decide +kernel
theorem dX4_weightOf_14 : decode cX4_weightOf 14 = .ok (.iand, 1) := by decide +kernel
theorem dX4_weightOf_15 : decode cX4_weightOf 15 = .ok (.iconst 1, 1) := by decide +kernel
theorem dX4_weightOf_16 : decode cX4_weightOf 16 = .ok (.if_icmp .ne 18, 3) := by decide +kernel
theorem dX4_weightOf_19 : decode cX4_weightOf 19 = .ok (.aload_n 0, 1) := by decide +kernel
theorem dX4_weightOf_20 : decode cX4_weightOf 20 = .ok (.getfield 23, 3) := by decide +kernel
theorem dX4_weightOf_23 : decode cX4_weightOf 23 = .ok (.getfield 76, 3) := by decide +kernel
theorem dX4_weightOf_26 : decode cX4_weightOf 26 = .ok (.bipush 8, 2) := by decide +kernel
theorem dX4_weightOf_28 : decode cX4_weightOf 28 = .ok (.iload_n 3, 1) := by decide +kernel
theorem dX4_weightOf_29 : decode cX4_weightOf 29 = .ok (.iadd, 1) := by decide +kernel
theorem dX4_weightOf_30 : decode cX4_weightOf 30 = .ok (.iaload, 1) := by decide +kernel
theorem dX4_weightOf_31 : decode cX4_weightOf 31 = .ok (.goto 4, 3) := by decide +kernel
theorem dX4_weightOf_34 : decode cX4_weightOf 34 = .ok (.iconst 0, 1) := by decide +kernel
theorem dX4_weightOf_35 : decode cX4_weightOf 35 = .ok (.iadd, 1) := by decide +kernel
theorem dX4_weightOf_36 : decode cX4_weightOf 36 = .ok (.istore_n 2, 1) := by decide +kernel
theorem dX4_weightOf_37 : decode cX4_weightOf 37 = .ok (.iinc 3 1, 3) := by decide +kernel
theorem dX4_weightOf_40 : decode cX4_weightOf 40 = .ok (.goto (-36), 3) := by decide +kernel
theorem dX4_weightOf_43 : decode cX4_weightOf 43 = .ok (.iload_n 2, 1) := by decide +kernel
theorem dX4_weightOf_44 : decode cX4_weightOf 44 = .ok (.ireturn, 1) := by decide +kernel
theorem dX4_settleFactors_0 : decode cX4_settleFactors 0 = .ok (.aload_n 0, 1) := by decide +kernel
theorem dX4_settleFactors_1 : decode cX4_settleFactors 1 = .ok (.getfield 23, 3) := by decide +kernel
theorem dX4_settleFactors_4 : decode cX4_settleFactors 4 = .ok (.getfield 84, 3) := by decide +kernel
theorem dX4_settleFactors_7 : decode cX4_settleFactors 7 = .ok (.lstore 4, 2) := by decide +kernel
theorem dX4_settleFactors_9 : decode cX4_settleFactors 9 = .ok (.aload_n 0, 1) := by decide +kernel
theorem dX4_settleFactors_10 : decode cX4_settleFactors 10 = .ok (.getfield 23, 3) := by decide +kernel
theorem dX4_settleFactors_13 : decode cX4_settleFactors 13 = .ok (.getfield 34, 3) := by decide +kernel
theorem dX4_settleFactors_16 : decode cX4_settleFactors 16 = .ok (.astore 6, 2) := by decide +kernel
theorem dX4_settleFactors_18 : decode cX4_settleFactors 18 = .ok (.iconst 4, 1) := by decide +kernel
theorem dX4_settleFactors_19 : decode cX4_settleFactors 19 = .ok (.iload_n 1, 1) := by decide +kernel
theorem dX4_settleFactors_20 : decode cX4_settleFactors 20 = .ok (.imul, 1) := by decide +kernel
theorem dX4_settleFactors_21 : decode cX4_settleFactors 21 = .ok (.istore 7, 2) := by decide +kernel
theorem dX4_settleFactors_23 : decode cX4_settleFactors 23 = .ok (.aload_n 0, 1) := by decide +kernel
theorem dX4_settleFactors_24 : decode cX4_settleFactors 24 = .ok (.getfield 15, 3) := by decide +kernel
theorem dX4_settleFactors_27 : decode cX4_settleFactors 27 = .ok (.iload 7, 2) := by decide +kernel
theorem dX4_settleFactors_29 : decode cX4_settleFactors 29 = .ok (.aload 6, 2) := by decide +kernel
theorem dX4_settleFactors_31 : decode cX4_settleFactors 31 = .ok (.iconst 0, 1) := by decide +kernel
theorem dX4_settleFactors_32 : decode cX4_settleFactors 32 = .ok (.iaload, 1) := by decide +kernel
theorem dX4_settleFactors_33 : decode cX4_settleFactors 33 = .ok (.i2l, 1) := by decide +kernel
theorem dX4_settleFactors_34 : decode cX4_settleFactors 34 = .ok (.ldc2_w 88, 3) := by decide +kernel
theorem dX4_settleFactors_37 : decode cX4_settleFactors 37 = .ok (.lload_n 2, 1) := by decide +kernel
theorem dX4_settleFactors_38 : decode cX4_settleFactors 38 = .ok (.lsub, 1) := by decide +kernel
theorem dX4_settleFactors_39 : decode cX4_settleFactors 39 = .ok (.lmul, 1) := by decide +kernel
theorem dX4_settleFactors_40 : decode cX4_settleFactors 40 = .ok (.lload 4, 2) := by decide +kernel
theorem dX4_settleFactors_42 : decode cX4_settleFactors 42 = .ok (.lmul, 1) := by decide +kernel
theorem dX4_settleFactors_43 : decode cX4_settleFactors 43 = .ok (.lload 4, 2) := by decide +kernel
theorem dX4_settleFactors_45 : decode cX4_settleFactors 45 = .ok (.lmul, 1) := by decide +kernel
theorem dX4_settleFactors_46 : decode cX4_settleFactors 46 = .ok (.lload 4, 2) := by decide +kernel
theorem dX4_settleFactors_48 : decode cX4_settleFactors 48 = .ok (.lmul, 1) := by decide +kernel
theorem dX4_settleFactors_49 : decode cX4_settleFactors 49 = .ok (.lastore, 1) := by decide +kernel
theorem dX4_settleFactors_50 : decode cX4_settleFactors 50 = .ok (.aload_n 0, 1) := by decide +kernel
theorem dX4_settleFactors_51 : decode cX4_settleFactors 51 = .ok (.getfield 15, 3) := by decide +kernel
theorem dX4_settleFactors_54 : decode cX4_settleFactors 54 = .ok (.iload 7, 2) := by decide +kernel
theorem dX4_settleFactors_56 : decode cX4_settleFactors 56 = .ok (.iconst 1, 1) := by decide +kernel
theorem dX4_settleFactors_57 : decode cX4_settleFactors 57 = .ok (.iadd, 1) := by decide +kernel
theorem dX4_settleFactors_58 : decode cX4_settleFactors 58 = .ok (.aload 6, 2) := by decide +kernel
theorem dX4_settleFactors_60 : decode cX4_settleFactors 60 = .ok (.iconst 1, 1) := by decide +kernel
theorem dX4_settleFactors_61 : decode cX4_settleFactors 61 = .ok (.iaload, 1) := by decide +kernel
theorem dX4_settleFactors_62 : decode cX4_settleFactors 62 = .ok (.i2l, 1) := by decide +kernel
theorem dX4_settleFactors_63 : decode cX4_settleFactors 63 = .ok (.ldc2_w 88, 3) := by decide +kernel
theorem dX4_settleFactors_66 : decode cX4_settleFactors 66 = .ok (.lload_n 2, 1) := by decide +kernel
theorem dX4_settleFactors_67 : decode cX4_settleFactors 67 = .ok (.lsub, 1) := by decide +kernel
theorem dX4_settleFactors_68 : decode cX4_settleFactors 68 = .ok (.lmul, 1) := by decide +kernel
theorem dX4_settleFactors_69 : decode cX4_settleFactors 69 = .ok (.aload 6, 2) := by decide +kernel
theorem dX4_settleFactors_71 : decode cX4_settleFactors 71 = .ok (.iconst 0, 1) := by decide +kernel
theorem dX4_settleFactors_72 : decode cX4_settleFactors 72 = .ok (.iaload, 1) := by decide +kernel
theorem dX4_settleFactors_73 : decode cX4_settleFactors 73 = .ok (.i2l, 1) := by decide +kernel
theorem dX4_settleFactors_74 : decode cX4_settleFactors 74 = .ok (.lload_n 2, 1) := by decide +kernel
theorem dX4_settleFactors_75 : decode cX4_settleFactors 75 = .ok (.lmul, 1) := by decide +kernel
theorem dX4_settleFactors_76 : decode cX4_settleFactors 76 = .ok (.ladd, 1) := by decide +kernel
theorem dX4_settleFactors_77 : decode cX4_settleFactors 77 = .ok (.lload 4, 2) := by decide +kernel
theorem dX4_settleFactors_79 : decode cX4_settleFactors 79 = .ok (.lmul, 1) := by decide +kernel
theorem dX4_settleFactors_80 : decode cX4_settleFactors 80 = .ok (.lload 4, 2) := by decide +kernel
theorem dX4_settleFactors_82 : decode cX4_settleFactors 82 = .ok (.lmul, 1) := by decide +kernel
theorem dX4_settleFactors_83 : decode cX4_settleFactors 83 = .ok (.lastore, 1) := by decide +kernel
theorem dX4_settleFactors_84 : decode cX4_settleFactors 84 = .ok (.aload_n 0, 1) := by decide +kernel
theorem dX4_settleFactors_85 : decode cX4_settleFactors 85 = .ok (.getfield 15, 3) := by decide +kernel
theorem dX4_settleFactors_88 : decode cX4_settleFactors 88 = .ok (.iload 7, 2) := by decide +kernel
theorem dX4_settleFactors_90 : decode cX4_settleFactors 90 = .ok (.iconst 2, 1) := by decide +kernel
theorem dX4_settleFactors_91 : decode cX4_settleFactors 91 = .ok (.iadd, 1) := by decide +kernel
theorem dX4_settleFactors_92 : decode cX4_settleFactors 92 = .ok (.aload 6, 2) := by decide +kernel
theorem dX4_settleFactors_94 : decode cX4_settleFactors 94 = .ok (.iconst 2, 1) := by decide +kernel
theorem dX4_settleFactors_95 : decode cX4_settleFactors 95 = .ok (.iaload, 1) := by decide +kernel
theorem dX4_settleFactors_96 : decode cX4_settleFactors 96 = .ok (.i2l, 1) := by decide +kernel
theorem dX4_settleFactors_97 : decode cX4_settleFactors 97 = .ok (.ldc2_w 88, 3) := by decide +kernel
theorem dX4_settleFactors_100 : decode cX4_settleFactors 100 = .ok (.lload_n 2, 1) := by decide +kernel
theorem dX4_settleFactors_101 : decode cX4_settleFactors 101 = .ok (.lsub, 1) := by decide +kernel
theorem dX4_settleFactors_102 : decode cX4_settleFactors 102 = .ok (.lmul, 1) := by decide +kernel
theorem dX4_settleFactors_103 : decode cX4_settleFactors 103 = .ok (.aload 6, 2) := by decide +kernel
theorem dX4_settleFactors_105 : decode cX4_settleFactors 105 = .ok (.iconst 1, 1) := by decide +kernel
theorem dX4_settleFactors_106 : decode cX4_settleFactors 106 = .ok (.iaload, 1) := by decide +kernel
theorem dX4_settleFactors_107 : decode cX4_settleFactors 107 = .ok (.i2l, 1) := by decide +kernel
theorem dX4_settleFactors_108 : decode cX4_settleFactors 108 = .ok (.lload_n 2, 1) := by decide +kernel
theorem dX4_settleFactors_109 : decode cX4_settleFactors 109 = .ok (.lmul, 1) := by decide +kernel
theorem dX4_settleFactors_110 : decode cX4_settleFactors 110 = .ok (.ladd, 1) := by decide +kernel
theorem dX4_settleFactors_111 : decode cX4_settleFactors 111 = .ok (.lload 4, 2) := by decide +kernel
theorem dX4_settleFactors_113 : decode cX4_settleFactors 113 = .ok (.lmul, 1) := by decide +kernel
theorem dX4_settleFactors_114 : decode cX4_settleFactors 114 = .ok (.lastore, 1) := by decide +kernel
theorem dX4_settleFactors_115 : decode cX4_settleFactors 115 = .ok (.aload_n 0, 1) := by decide +kernel
theorem dX4_settleFactors_116 : decode cX4_settleFactors 116 = .ok (.getfield 15, 3) := by decide +kernel
theorem dX4_settleFactors_119 : decode cX4_settleFactors 119 = .ok (.iload 7, 2) := by decide +kernel
theorem dX4_settleFactors_121 : decode cX4_settleFactors 121 = .ok (.iconst 3, 1) := by decide +kernel
theorem dX4_settleFactors_122 : decode cX4_settleFactors 122 = .ok (.iadd, 1) := by decide +kernel
theorem dX4_settleFactors_123 : decode cX4_settleFactors 123 = .ok (.aload 6, 2) := by decide +kernel
theorem dX4_settleFactors_125 : decode cX4_settleFactors 125 = .ok (.iconst 3, 1) := by decide +kernel
theorem dX4_settleFactors_126 : decode cX4_settleFactors 126 = .ok (.iaload, 1) := by decide +kernel
theorem dX4_settleFactors_127 : decode cX4_settleFactors 127 = .ok (.i2l, 1) := by decide +kernel
theorem dX4_settleFactors_128 : decode cX4_settleFactors 128 = .ok (.ldc2_w 88, 3) := by decide +kernel
theorem dX4_settleFactors_131 : decode cX4_settleFactors 131 = .ok (.lmul, 1) := by decide +kernel
theorem dX4_settleFactors_132 : decode cX4_settleFactors 132 = .ok (.aload 6, 2) := by decide +kernel
theorem dX4_settleFactors_134 : decode cX4_settleFactors 134 = .ok (.iconst 2, 1) := by decide +kernel
theorem dX4_settleFactors_135 : decode cX4_settleFactors 135 = .ok (.iaload, 1) := by decide +kernel
theorem dX4_settleFactors_136 : decode cX4_settleFactors 136 = .ok (.i2l, 1) := by decide +kernel
theorem dX4_settleFactors_137 : decode cX4_settleFactors 137 = .ok (.lload_n 2, 1) := by decide +kernel
theorem dX4_settleFactors_138 : decode cX4_settleFactors 138 = .ok (.lmul, 1) := by decide +kernel
theorem dX4_settleFactors_139 : decode cX4_settleFactors 139 = .ok (.ladd, 1) := by decide +kernel
theorem dX4_settleFactors_140 : decode cX4_settleFactors 140 = .ok (.lastore, 1) := by decide +kernel
theorem dX4_settleFactors_141 : decode cX4_settleFactors 141 = .ok (.return_, 1) := by decide +kernel
theorem dX4_homesAt_0 : decode cX4_homesAt 0 = .ok (.iconst 4, 1) := by decide +kernel
theorem dX4_homesAt_1 : decode cX4_homesAt 1 = .ok (.iload_n 1, 1) := by decide +kernel
theorem dX4_homesAt_2 : decode cX4_homesAt 2 = .ok (.imul, 1) := by decide +kernel
theorem dX4_homesAt_3 : decode cX4_homesAt 3 = .ok (.istore 4, 2) := by decide +kernel
theorem dX4_homesAt_5 : decode cX4_homesAt 5 = .ok (.aload_n 0, 1) := by decide +kernel
theorem dX4_homesAt_6 : decode cX4_homesAt 6 = .ok (.getfield 15, 3) := by decide +kernel
theorem dX4_homesAt_9 : decode cX4_homesAt 9 = .ok (.iload 4, 2) := by decide +kernel
theorem dX4_homesAt_11 : decode cX4_homesAt 11 = .ok (.iconst 3, 1) := by decide +kernel
theorem dX4_homesAt_12 : decode cX4_homesAt 12 = .ok (.iadd, 1) := by decide +kernel
theorem dX4_homesAt_13 : decode cX4_homesAt 13 = .ok (.laload, 1) := by decide +kernel
theorem dX4_homesAt_14 : decode cX4_homesAt 14 = .ok (.lload_n 2, 1) := by decide +kernel
theorem dX4_homesAt_15 : decode cX4_homesAt 15 = .ok (.lmul, 1) := by decide +kernel
theorem dX4_homesAt_16 : decode cX4_homesAt 16 = .ok (.aload_n 0, 1) := by decide +kernel
theorem dX4_homesAt_17 : decode cX4_homesAt 17 = .ok (.getfield 15, 3) := by decide +kernel
theorem dX4_homesAt_20 : decode cX4_homesAt 20 = .ok (.iload 4, 2) := by decide +kernel
theorem dX4_homesAt_22 : decode cX4_homesAt 22 = .ok (.iconst 2, 1) := by decide +kernel
theorem dX4_homesAt_23 : decode cX4_homesAt 23 = .ok (.iadd, 1) := by decide +kernel
theorem dX4_homesAt_24 : decode cX4_homesAt 24 = .ok (.laload, 1) := by decide +kernel
theorem dX4_homesAt_25 : decode cX4_homesAt 25 = .ok (.ladd, 1) := by decide +kernel
theorem dX4_homesAt_26 : decode cX4_homesAt 26 = .ok (.lload_n 2, 1) := by decide +kernel
theorem dX4_homesAt_27 : decode cX4_homesAt 27 = .ok (.lmul, 1) := by decide +kernel
theorem dX4_homesAt_28 : decode cX4_homesAt 28 = .ok (.aload_n 0, 1) := by decide +kernel
theorem dX4_homesAt_29 : decode cX4_homesAt 29 = .ok (.getfield 15, 3) := by decide +kernel
theorem dX4_homesAt_32 : decode cX4_homesAt 32 = .ok (.iload 4, 2) := by decide +kernel
theorem dX4_homesAt_34 : decode cX4_homesAt 34 = .ok (.iconst 1, 1) := by decide +kernel
theorem dX4_homesAt_35 : decode cX4_homesAt 35 = .ok (.iadd, 1) := by decide +kernel
theorem dX4_homesAt_36 : decode cX4_homesAt 36 = .ok (.laload, 1) := by decide +kernel
theorem dX4_homesAt_37 : decode cX4_homesAt 37 = .ok (.ladd, 1) := by decide +kernel
theorem dX4_homesAt_38 : decode cX4_homesAt 38 = .ok (.lload_n 2, 1) := by decide +kernel
theorem dX4_homesAt_39 : decode cX4_homesAt 39 = .ok (.lmul, 1) := by decide +kernel
theorem dX4_homesAt_40 : decode cX4_homesAt 40 = .ok (.aload_n 0, 1) := by decide +kernel
theorem dX4_homesAt_41 : decode cX4_homesAt 41 = .ok (.getfield 15, 3) := by decide +kernel
theorem dX4_homesAt_44 : decode cX4_homesAt 44 = .ok (.iload 4, 2) := by decide +kernel
theorem dX4_homesAt_46 : decode cX4_homesAt 46 = .ok (.laload, 1) := by decide +kernel
theorem dX4_homesAt_47 : decode cX4_homesAt 47 = .ok (.ladd, 1) := by decide +kernel
theorem dX4_homesAt_48 : decode cX4_homesAt 48 = .ok (.lreturn, 1) := by decide +kernel
set_option maxRecDepth 20000 in
theorem ggX5_init_X8_init : GoodIn wsX5_init wsX8_init := goodIn_r _ [14, 15, 2, 3, 16, 17, 18, 19, 20, 21, 6, 22, 23, 24, 25, 26, 27, 28, 29, 30, 31, 32, 33, 34, 35, 36, 37, 38] (by decide +kernel) (by decide +kernel)
set_option maxRecDepth 20000 in
theorem gX5_init_X8_init : GoodIn wsX5_init (wsX8_init) := ggX5_init_X8_init
theorem dX5_init_0 : decode cX5_init 0 = .ok (.aload_n 0, 1) := by decide +kernel
theorem dX5_init_1 : decode cX5_init 1 = .ok (.invokespecial 3, 3) := by decide +kernel
theorem dX5_init_4 : decode cX5_init 4 = .ok (.aload_n 0, 1) := by decide +kernel
theorem dX5_init_5 : decode cX5_init 5 = .ok (.new 9, 3) := by decide +kernel
theorem dX5_init_8 : decode cX5_init 8 = .ok (.dup, 1) := by decide +kernel
theorem dX5_init_9 : decode cX5_init 9 = .ok (.invokespecial 11, 3) := by decide +kernel
theorem dX5_init_12 : decode cX5_init 12 = .ok (.putfield 12, 3) := by decide +kernel
theorem dX5_init_15 : decode cX5_init 15 = .ok (.aload_n 0, 1) := by decide +kernel
theorem dX5_init_16 : decode cX5_init 16 = .ok (.bipush 12, 2) := by decide +kernel
theorem dX5_init_18 : decode cX5_init 18 = .ok (.newarray .boolean, 2) := by decide +kernel
theorem dX5_init_20 : decode cX5_init 20 = .ok (.putfield 18, 3) := by decide +kernel
theorem dX5_init_23 : decode cX5_init 23 = .ok (.aload_n 0, 1) := by decide +kernel
theorem dX5_init_24 : decode cX5_init 24 = .ok (.bipush 7, 2) := by decide +kernel
theorem dX5_init_26 : decode cX5_init 26 = .ok (.newarray .boolean, 2) := by decide +kernel
theorem dX5_init_28 : decode cX5_init 28 = .ok (.putfield 22, 3) := by decide +kernel
theorem dX5_init_31 : decode cX5_init 31 = .ok (.aload_n 0, 1) := by decide +kernel
theorem dX5_init_32 : decode cX5_init 32 = .ok (.aload_n 1, 1) := by decide +kernel
theorem dX5_init_33 : decode cX5_init 33 = .ok (.putfield 25, 3) := by decide +kernel
theorem dX5_init_36 : decode cX5_init 36 = .ok (.return_, 1) := by decide +kernel
set_option maxRecDepth 20000 in
theorem ggX5_readTape_X5_begin : GoodIn wsX5_readTape wsX5_begin := goodIn_r _ [8, 9, 10, 11, 1, 12, 13, 2, 14, 15, 16, 17, 18, 19, 20, 21, 22, 23, 24, 25, 26, 27, 28, 140, 141, 142, 143, 144, 145, 146, 152, 153, 154, 155, 156, 157, 147, 148, 149, 150, 151] (by decide +kernel) (by decide +kernel)
set_option maxRecDepth 20000 in
theorem gX5_readTape_X5_begin : GoodIn wsX5_readTape (wsV RX5 29 RX5 yX5_begin wsX5_begin) := goodIn_app (goodIn_of _ (by decide +kernel)) ggX5_readTape_X5_begin
set_option maxRecDepth 20000 in
theorem ggX5_readTape_X5_advance : GoodIn wsX5_readTape wsX5_advance := goodIn_r _ [32, 1, 2, 3, 33, 34, 35, 24, 36, 26, 37, 38, 27, 28, 39, 40, 41, 42, 43, 44, 45, 7, 46, 47, 12, 140, 141, 142, 143, 144, 145, 146, 147, 148, 149, 150, 151] (by decide +kernel) (by decide +kernel)
set_option maxRecDepth 20000 in
theorem gX5_readTape_X5_advance : GoodIn wsX5_readTape (wsV RX5 32 RX5 yX5_advance wsX5_advance) := goodIn_app (goodIn_of _ (by decide +kernel)) ggX5_readTape_X5_advance
set_option maxRecDepth 20000 in
theorem ggX5_readTape_X5_readLine : GoodIn wsX5_readTape wsX5_readLine := goodIn_r _ [51, 11, 9, 52, 53, 54, 55, 7, 56, 2, 57, 58, 59, 24, 60, 26, 27, 28, 38, 61, 62, 63, 64, 65, 66, 67, 68, 69, 70, 71, 72, 73, 74, 75, 76, 77, 78, 79, 80, 81, 82, 83, 84, 85, 86, 87, 88, 89, 90, 91, 92, 93, 94, 95, 96, 97, 98, 99, 100, 101, 102, 103, 104, 105, 106, 107, 108, 109, 43, 44, 45, 46, 1, 47, 12, 29, 30, 31, 32, 3, 33, 34, 35, 36, 37, 39, 40, 41, 42, 110, 111, 112, 113, 10, 114, 115, 116, 117, 118, 119, 120, 121, 122, 123, 124, 125, 126, 127, 128, 129, 130, 131, 132, 133, 134, 135, 136, 137, 138, 139, 13, 140, 141, 142, 143, 144, 145, 146, 152, 153, 154, 155, 156, 157, 147, 148, 149, 150, 151] (by decide +kernel) (by decide +kernel)
set_option maxRecDepth 20000 in
theorem gX5_readTape_X5_readLine : GoodIn wsX5_readTape (wsV RX5 44 RX5 yX5_readLine wsX5_readLine) := goodIn_app (goodIn_of _ (by decide +kernel)) ggX5_readTape_X5_readLine
theorem dX5_readTape_0 : decode cX5_readTape 0 = .ok (.aload_n 0, 1) := by decide +kernel
theorem dX5_readTape_1 : decode cX5_readTape 1 = .ok (.invokevirtual 29, 3) := by decide +kernel
theorem dX5_readTape_4 : decode cX5_readTape 4 = .ok (.aload_n 0, 1) := by decide +kernel
theorem dX5_readTape_5 : decode cX5_readTape 5 = .ok (.invokevirtual 32, 3) := by decide +kernel
theorem dX5_readTape_8 : decode cX5_readTape 8 = .ok (.iconst 0, 1) := by decide +kernel
theorem dX5_readTape_9 : decode cX5_readTape 9 = .ok (.istore_n 1, 1) := by decide +kernel
theorem dX5_readTape_10 : decode cX5_readTape 10 = .ok (.iload_n 1, 1) := by decide +kernel
theorem dX5_readTape_11 : decode cX5_readTape 11 = .ok (.sipush 200, 3) := by decide +kernel
theorem dX5_readTape_14 : decode cX5_readTape 14 = .ok (.if_icmp .ge 31, 3) := by decide +kernel
theorem dX5_readTape_17 : decode cX5_readTape 17 = .ok (.aload_n 0, 1) := by decide +kernel
theorem dX5_readTape_18 : decode cX5_readTape 18 = .ok (.getfield 37, 3) := by decide +kernel
theorem dX5_readTape_21 : decode cX5_readTape 21 = .ok (.ifCond .ne 24, 3) := by decide +kernel
theorem dX5_readTape_24 : decode cX5_readTape 24 = .ok (.aload_n 0, 1) := by decide +kernel
theorem dX5_readTape_25 : decode cX5_readTape 25 = .ok (.getfield 25, 3) := by decide +kernel
theorem dX5_readTape_28 : decode cX5_readTape 28 = .ok (.getfield 41, 3) := by decide +kernel
theorem dX5_readTape_31 : decode cX5_readTape 31 = .ok (.iconst 1, 1) := by decide +kernel
theorem dX5_readTape_32 : decode cX5_readTape 32 = .ok (.if_icmp .eq 13, 3) := by decide +kernel
theorem dX5_readTape_35 : decode cX5_readTape 35 = .ok (.aload_n 0, 1) := by decide +kernel
theorem dX5_readTape_36 : decode cX5_readTape 36 = .ok (.invokevirtual 44, 3) := by decide +kernel
theorem dX5_readTape_39 : decode cX5_readTape 39 = .ok (.iinc 1 1, 3) := by decide +kernel
theorem dX5_readTape_42 : decode cX5_readTape 42 = .ok (.goto (-32), 3) := by decide +kernel
theorem dX5_readTape_45 : decode cX5_readTape 45 = .ok (.return_, 1) := by decide +kernel
set_option maxRecDepth 20000 in
theorem ggX5_begin_X8_standAsUntold : GoodIn wsX5_begin wsX8_standAsUntold := goodIn_r _ [12, 13, 14, 30, 31, 32, 33, 34, 35] (by decide +kernel) (by decide +kernel)
set_option maxRecDepth 20000 in
theorem gX5_begin_X8_standAsUntold : GoodIn wsX5_begin (wsV RX5 47 RX8 yX8_standAsUntold wsX8_standAsUntold) := goodIn_app (goodIn_of _ (by decide +kernel)) ggX5_begin_X8_standAsUntold
set_option maxRecDepth 20000 in
theorem ggX5_begin_X7_rewind : GoodIn wsX5_begin wsX7_rewind := goodIn_r _ [19, 20, 21, 22, 36, 37, 38, 39, 40] (by decide +kernel) (by decide +kernel)
set_option maxRecDepth 20000 in
theorem gX5_begin_X7_rewind : GoodIn wsX5_begin (wsV RX5 56 RX7 yX7_rewind wsX7_rewind) := goodIn_app (goodIn_of _ (by decide +kernel)) ggX5_begin_X7_rewind
theorem dX5_begin_0 : decode cX5_begin 0 = .ok (.aload_n 0, 1) := by decide +kernel
theorem dX5_begin_1 : decode cX5_begin 1 = .ok (.getfield 12, 3) := by decide +kernel
theorem dX5_begin_4 : decode cX5_begin 4 = .ok (.invokevirtual 47, 3) := by decide +kernel
theorem dX5_begin_7 : decode cX5_begin 7 = .ok (.iconst 0, 1) := by decide +kernel
theorem dX5_begin_8 : decode cX5_begin 8 = .ok (.istore_n 1, 1) := by decide +kernel
theorem dX5_begin_9 : decode cX5_begin 9 = .ok (.iload_n 1, 1) := by decide +kernel
theorem dX5_begin_10 : decode cX5_begin 10 = .ok (.aload_n 0, 1) := by decide +kernel
theorem dX5_begin_11 : decode cX5_begin 11 = .ok (.getfield 18, 3) := by decide +kernel
theorem dX5_begin_14 : decode cX5_begin 14 = .ok (.arraylength, 1) := by decide +kernel
theorem dX5_begin_15 : decode cX5_begin 15 = .ok (.if_icmp .ge 16, 3) := by decide +kernel
theorem dX5_begin_18 : decode cX5_begin 18 = .ok (.aload_n 0, 1) := by decide +kernel
theorem dX5_begin_19 : decode cX5_begin 19 = .ok (.getfield 18, 3) := by decide +kernel
theorem dX5_begin_22 : decode cX5_begin 22 = .ok (.iload_n 1, 1) := by decide +kernel
theorem dX5_begin_23 : decode cX5_begin 23 = .ok (.iconst 0, 1) := by decide +kernel
theorem dX5_begin_24 : decode cX5_begin 24 = .ok (.bastore, 1) := by decide +kernel
theorem dX5_begin_25 : decode cX5_begin 25 = .ok (.iinc 1 1, 3) := by decide +kernel
theorem dX5_begin_28 : decode cX5_begin 28 = .ok (.goto (-19), 3) := by decide +kernel
theorem dX5_begin_31 : decode cX5_begin 31 = .ok (.iconst 0, 1) := by decide +kernel
theorem dX5_begin_32 : decode cX5_begin 32 = .ok (.istore_n 1, 1) := by decide +kernel
theorem dX5_begin_33 : decode cX5_begin 33 = .ok (.iload_n 1, 1) := by decide +kernel
theorem dX5_begin_34 : decode cX5_begin 34 = .ok (.bipush 7, 2) := by decide +kernel
theorem dX5_begin_36 : decode cX5_begin 36 = .ok (.if_icmp .ge 16, 3) := by decide +kernel
theorem dX5_begin_39 : decode cX5_begin 39 = .ok (.aload_n 0, 1) := by decide +kernel
theorem dX5_begin_40 : decode cX5_begin 40 = .ok (.getfield 22, 3) := by decide +kernel
theorem dX5_begin_43 : decode cX5_begin 43 = .ok (.iload_n 1, 1) := by decide +kernel
theorem dX5_begin_44 : decode cX5_begin 44 = .ok (.iconst 0, 1) := by decide +kernel
theorem dX5_begin_45 : decode cX5_begin 45 = .ok (.bastore, 1) := by decide +kernel
theorem dX5_begin_46 : decode cX5_begin 46 = .ok (.iinc 1 1, 3) := by decide +kernel
theorem dX5_begin_49 : decode cX5_begin 49 = .ok (.goto (-16), 3) := by decide +kernel
theorem dX5_begin_52 : decode cX5_begin 52 = .ok (.aload_n 0, 1) := by decide +kernel
theorem dX5_begin_53 : decode cX5_begin 53 = .ok (.iconst 0, 1) := by decide +kernel
theorem dX5_begin_54 : decode cX5_begin 54 = .ok (.putfield 37, 3) := by decide +kernel
theorem dX5_begin_57 : decode cX5_begin 57 = .ok (.aload_n 0, 1) := by decide +kernel
theorem dX5_begin_58 : decode cX5_begin 58 = .ok (.iconst 0, 1) := by decide +kernel
theorem dX5_begin_59 : decode cX5_begin 59 = .ok (.putfield 50, 3) := by decide +kernel
theorem dX5_begin_62 : decode cX5_begin 62 = .ok (.aload_n 0, 1) := by decide +kernel
theorem dX5_begin_63 : decode cX5_begin 63 = .ok (.iconst 0, 1) := by decide +kernel
theorem dX5_begin_64 : decode cX5_begin 64 = .ok (.putfield 53, 3) := by decide +kernel
theorem dX5_begin_67 : decode cX5_begin 67 = .ok (.aload_n 0, 1) := by decide +kernel
theorem dX5_begin_68 : decode cX5_begin 68 = .ok (.getfield 25, 3) := by decide +kernel
theorem dX5_begin_71 : decode cX5_begin 71 = .ok (.invokevirtual 56, 3) := by decide +kernel
theorem dX5_begin_74 : decode cX5_begin 74 = .ok (.return_, 1) := by decide +kernel
theorem dX5_fail_0 : decode cX5_fail 0 = .ok (.aload_n 0, 1) := by decide +kernel
theorem dX5_fail_1 : decode cX5_fail 1 = .ok (.getfield 37, 3) := by decide +kernel
theorem dX5_fail_4 : decode cX5_fail 4 = .ok (.ifCond .ne 19, 3) := by decide +kernel
theorem dX5_fail_7 : decode cX5_fail 7 = .ok (.aload_n 0, 1) := by decide +kernel
theorem dX5_fail_8 : decode cX5_fail 8 = .ok (.iload_n 1, 1) := by decide +kernel
theorem dX5_fail_9 : decode cX5_fail 9 = .ok (.putfield 37, 3) := by decide +kernel
theorem dX5_fail_12 : decode cX5_fail 12 = .ok (.aload_n 0, 1) := by decide +kernel
theorem dX5_fail_13 : decode cX5_fail 13 = .ok (.aload_n 0, 1) := by decide +kernel
theorem dX5_fail_14 : decode cX5_fail 14 = .ok (.getfield 25, 3) := by decide +kernel
theorem dX5_fail_17 : decode cX5_fail 17 = .ok (.getfield 59, 3) := by decide +kernel
theorem dX5_fail_20 : decode cX5_fail 20 = .ok (.putfield 50, 3) := by decide +kernel
theorem dX5_fail_23 : decode cX5_fail 23 = .ok (.return_, 1) := by decide +kernel
set_option maxRecDepth 20000 in
theorem ggX5_advance_X7_next : GoodIn wsX5_advance wsX7_next := goodIn_r _ [8, 9, 10, 11, 12, 13, 14, 15, 16, 7, 17, 32, 33, 34, 35, 36] (by decide +kernel) (by decide +kernel)
set_option maxRecDepth 20000 in
theorem gX5_advance_X7_next : GoodIn wsX5_advance (wsV RX5 62 RX7 yX7_next wsX7_next) := goodIn_app (goodIn_of _ (by decide +kernel)) ggX5_advance_X7_next
set_option maxRecDepth 20000 in
theorem ggX5_advance_X5_fail : GoodIn wsX5_advance wsX5_fail := goodIn_r _ [22, 1, 2, 23, 24, 25, 26, 27, 28, 29, 30, 31, 32, 33, 34, 35, 36] (by decide +kernel) (by decide +kernel)
set_option maxRecDepth 20000 in
theorem gX5_advance_X5_fail : GoodIn wsX5_advance (wsV RX5 65 RX5 yX5_fail wsX5_fail) := goodIn_app (goodIn_of _ (by decide +kernel)) ggX5_advance_X5_fail
theorem dX5_advance_0 : decode cX5_advance 0 = .ok (.aload_n 0, 1) := by decide +kernel
theorem dX5_advance_1 : decode cX5_advance 1 = .ok (.getfield 37, 3) := by decide +kernel
theorem dX5_advance_4 : decode cX5_advance 4 = .ok (.ifCond .eq 4, 3) := by decide +kernel
theorem dX5_advance_7 : decode cX5_advance 7 = .ok (.return_, 1) := by decide +kernel
theorem dX5_advance_8 : decode cX5_advance 8 = .ok (.aload_n 0, 1) := by decide +kernel
theorem dX5_advance_9 : decode cX5_advance 9 = .ok (.getfield 25, 3) := by decide +kernel
theorem dX5_advance_12 : decode cX5_advance 12 = .ok (.invokevirtual 62, 3) := by decide +kernel
theorem dX5_advance_15 : decode cX5_advance 15 = .ok (.aload_n 0, 1) := by decide +kernel
theorem dX5_advance_16 : decode cX5_advance 16 = .ok (.getfield 25, 3) := by decide +kernel
theorem dX5_advance_19 : decode cX5_advance 19 = .ok (.getfield 41, 3) := by decide +kernel
theorem dX5_advance_22 : decode cX5_advance 22 = .ok (.ifCond .ne 8, 3) := by decide +kernel
theorem dX5_advance_25 : decode cX5_advance 25 = .ok (.aload_n 0, 1) := by decide +kernel
theorem dX5_advance_26 : decode cX5_advance 26 = .ok (.iconst 1, 1) := by decide +kernel
theorem dX5_advance_27 : decode cX5_advance 27 = .ok (.invokevirtual 65, 3) := by decide +kernel
theorem dX5_advance_30 : decode cX5_advance 30 = .ok (.return_, 1) := by decide +kernel
set_option maxRecDepth 20000 in
theorem ggX5_lineNamed_X7_isWord : GoodIn wsX5_lineNamed wsX7_isWord := goodIn_r _ [6, 7, 8, 9, 10, 11, 12, 13, 14, 15, 16, 17, 18, 19, 20, 21, 22, 23, 24, 25, 26, 27, 28, 29, 30, 31, 32, 33, 34, 35, 36, 37, 38, 39, 40, 41, 42, 43, 44, 45, 46, 47, 48, 49, 50, 51, 52, 53, 54, 55, 56, 57, 58, 59, 67, 68, 69, 70, 71] (by decide +kernel) (by decide +kernel)
set_option maxRecDepth 20000 in
theorem gX5_lineNamed_X7_isWord : GoodIn wsX5_lineNamed (wsV RX5 71 RX7 yX7_isWord wsX7_isWord) := goodIn_app (goodIn_of _ (by decide +kernel)) ggX5_lineNamed_X7_isWord
theorem dX5_lineNamed_0 : decode cX5_lineNamed 0 = .ok (.iconst 0, 1) := by decide +kernel
theorem dX5_lineNamed_1 : decode cX5_lineNamed 1 = .ok (.istore_n 1, 1) := by decide +kernel
theorem dX5_lineNamed_2 : decode cX5_lineNamed 2 = .ok (.iload_n 1, 1) := by decide +kernel
theorem dX5_lineNamed_3 : decode cX5_lineNamed 3 = .ok (.bipush 7, 2) := by decide +kernel
theorem dX5_lineNamed_5 : decode cX5_lineNamed 5 = .ok (.if_icmp .ge 27, 3) := by decide +kernel
theorem dX5_lineNamed_8 : decode cX5_lineNamed 8 = .ok (.aload_n 0, 1) := by decide +kernel
theorem dX5_lineNamed_9 : decode cX5_lineNamed 9 = .ok (.getfield 25, 3) := by decide +kernel
theorem dX5_lineNamed_12 : decode cX5_lineNamed 12 = .ok (.ldc 69, 2) := by decide +kernel
theorem dX5_lineNamed_14 : decode cX5_lineNamed 14 = .ok (.bipush 6, 2) := by decide +kernel
theorem dX5_lineNamed_16 : decode cX5_lineNamed 16 = .ok (.iload_n 1, 1) := by decide +kernel
theorem dX5_lineNamed_17 : decode cX5_lineNamed 17 = .ok (.imul, 1) := by decide +kernel
theorem dX5_lineNamed_18 : decode cX5_lineNamed 18 = .ok (.invokevirtual 71, 3) := by decide +kernel
theorem dX5_lineNamed_21 : decode cX5_lineNamed 21 = .ok (.ifCond .eq 5, 3) := by decide +kernel
theorem dX5_lineNamed_24 : decode cX5_lineNamed 24 = .ok (.iload_n 1, 1) := by decide +kernel
theorem dX5_lineNamed_25 : decode cX5_lineNamed 25 = .ok (.ireturn, 1) := by decide +kernel
theorem dX5_lineNamed_26 : decode cX5_lineNamed 26 = .ok (.iinc 1 1, 3) := by decide +kernel
theorem dX5_lineNamed_29 : decode cX5_lineNamed 29 = .ok (.goto (-27), 3) := by decide +kernel
theorem dX5_lineNamed_32 : decode cX5_lineNamed 32 = .ok (.iconst (-1), 1) := by decide +kernel
theorem dX5_lineNamed_33 : decode cX5_lineNamed 33 = .ok (.ireturn, 1) := by decide +kernel
set_option maxRecDepth 20000 in
theorem ggX5_readLine_X5_lineNamed : GoodIn wsX5_readLine wsX5_lineNamed := goodIn_r _ [8, 9, 10, 11, 12, 13, 14, 15, 16, 17, 18, 19, 20, 21, 22, 23, 24, 25, 26, 27, 28, 29, 30, 31, 32, 33, 34, 35, 36, 37, 38, 39, 40, 41, 42, 43, 44, 45, 46, 47, 48, 49, 50, 51, 52, 53, 54, 55, 56, 57, 58, 59, 60, 61, 62, 63, 64, 65, 66, 67, 121, 122, 123, 124, 125, 126, 127, 134, 135, 136, 137, 138] (by decide +kernel) (by decide +kernel)
set_option maxRecDepth 20000 in
theorem gX5_readLine_X5_lineNamed : GoodIn wsX5_readLine (wsV RX5 75 RX5 yX5_lineNamed wsX5_lineNamed) := goodIn_app (goodIn_of _ (by decide +kernel)) ggX5_readLine_X5_lineNamed
set_option maxRecDepth 20000 in
theorem ggX5_readLine_X5_fail : GoodIn wsX5_readLine wsX5_fail := goodIn_r _ [71, 72, 9, 73, 74, 121, 122, 123, 124, 125, 126, 127, 134, 135, 136, 137, 138] (by decide +kernel) (by decide +kernel)
set_option maxRecDepth 20000 in
theorem gX5_readLine_X5_fail : GoodIn wsX5_readLine (wsV RX5 65 RX5 yX5_fail wsX5_fail) := goodIn_app (goodIn_of _ (by decide +kernel)) ggX5_readLine_X5_fail
set_option maxRecDepth 20000 in
theorem ggX5_readLine_X5_advance : GoodIn wsX5_readLine wsX5_advance := goodIn_r _ [78, 72, 9, 79, 80, 81, 82, 13, 83, 15, 84, 18, 16, 17, 85, 86, 87, 88, 68, 69, 70, 7, 71, 73, 74, 121, 122, 123, 124, 125, 126, 127, 134, 135, 136, 137, 138] (by decide +kernel) (by decide +kernel)
set_option maxRecDepth 20000 in
theorem gX5_readLine_X5_advance : GoodIn wsX5_readLine (wsV RX5 32 RX5 yX5_advance wsX5_advance) := goodIn_app (goodIn_of _ (by decide +kernel)) ggX5_readLine_X5_advance
set_option maxRecDepth 20000 in
theorem ggX5_readLine_X5_readPartLine : GoodIn wsX5_readLine wsX5_readPartLine := goodIn_r _ [92, 72, 9, 93, 2, 94, 95, 96, 97, 13, 98, 17, 15, 16, 18, 99, 100, 101, 68, 69, 70, 7, 71, 73, 74, 75, 76, 77, 78, 79, 80, 81, 82, 83, 84, 85, 86, 87, 88, 102, 103, 104, 105, 106, 107, 108, 109, 110, 111, 121, 122, 123, 124, 125, 126, 127, 128, 129, 130, 131, 132, 133, 134, 135, 136, 137, 138] (by decide +kernel) (by decide +kernel)
set_option maxRecDepth 20000 in
theorem gX5_readLine_X5_readPartLine : GoodIn wsX5_readLine (wsV RX5 79 RX5 yX5_readPartLine wsX5_readPartLine) := goodIn_app (goodIn_of _ (by decide +kernel)) ggX5_readLine_X5_readPartLine
set_option maxRecDepth 20000 in
theorem ggX5_readLine_X5_readHits : GoodIn wsX5_readLine wsX5_readHits := goodIn_r _ [115, 72, 2, 3, 102, 103, 104, 7, 105, 9, 79, 106, 107, 68, 69, 70, 71, 73, 74, 108, 109, 110, 13, 111, 16, 15, 18, 75, 76, 77, 78, 80, 81, 82, 83, 84, 17, 85, 86, 87, 88, 121, 122, 123, 124, 125, 126, 127, 128, 129, 130, 131, 132, 133, 134, 135, 136, 137, 138] (by decide +kernel) (by decide +kernel)
set_option maxRecDepth 20000 in
theorem gX5_readLine_X5_readHits : GoodIn wsX5_readLine (wsV RX5 82 RX5 yX5_readHits wsX5_readHits) := goodIn_app (goodIn_of _ (by decide +kernel)) ggX5_readLine_X5_readHits
set_option maxRecDepth 20000 in
theorem ggX5_readLine_X5_seenNumber : GoodIn wsX5_readLine wsX5_seenNumber := goodIn_r _ [105, 9, 79, 106, 107, 68, 69, 70, 7, 71, 72, 73, 74, 108, 109, 110, 13, 111, 16, 15, 18, 121, 122, 123, 124, 125, 126, 127, 134, 135, 136, 137, 138] (by decide +kernel) (by decide +kernel)
set_option maxRecDepth 20000 in
theorem gX5_readLine_X5_seenNumber : GoodIn wsX5_readLine (wsV RX5 89 RX5 yX5_seenNumber wsX5_seenNumber) := goodIn_app (goodIn_of _ (by decide +kernel)) ggX5_readLine_X5_seenNumber
set_option maxRecDepth 20000 in
theorem ggX5_readLine_X5_readClose : GoodIn wsX5_readLine wsX5_readClose := goodIn_r _ [119, 72, 9, 79, 120, 68, 69, 70, 7, 71, 73, 74, 75, 76, 77, 78, 80, 81, 82, 13, 83, 15, 84, 18, 16, 17, 85, 86, 87, 88, 121, 122, 123, 124, 125, 126, 127, 134, 135, 136, 137, 138] (by decide +kernel) (by decide +kernel)
set_option maxRecDepth 20000 in
theorem gX5_readLine_X5_readClose : GoodIn wsX5_readLine (wsV RX5 93 RX5 yX5_readClose wsX5_readClose) := goodIn_app (goodIn_of _ (by decide +kernel)) ggX5_readLine_X5_readClose
theorem dX5_readLine_0 : decode cX5_readLine 0 = .ok (.aload_n 0, 1) := by decide +kernel
theorem dX5_readLine_1 : decode cX5_readLine 1 = .ok (.invokevirtual 75, 3) := by decide +kernel
theorem dX5_readLine_4 : decode cX5_readLine 4 = .ok (.istore_n 1, 1) := by decide +kernel
theorem dX5_readLine_5 : decode cX5_readLine 5 = .ok (.iload_n 1, 1) := by decide +kernel
theorem dX5_readLine_6 : decode cX5_readLine 6 = .ok (.ifCond .ge 9, 3) := by decide +kernel
theorem dX5_readLine_9 : decode cX5_readLine 9 = .ok (.aload_n 0, 1) := by decide +kernel
theorem dX5_readLine_10 : decode cX5_readLine 10 = .ok (.iconst 2, 1) := by decide +kernel
theorem dX5_readLine_11 : decode cX5_readLine 11 = .ok (.invokevirtual 65, 3) := by decide +kernel
theorem dX5_readLine_14 : decode cX5_readLine 14 = .ok (.return_, 1) := by decide +kernel
theorem dX5_readLine_15 : decode cX5_readLine 15 = .ok (.iload_n 1, 1) := by decide +kernel
theorem dX5_readLine_16 : decode cX5_readLine 16 = .ok (.iconst 3, 1) := by decide +kernel
theorem dX5_readLine_17 : decode cX5_readLine 17 = .ok (.if_icmp .lt 18, 3) := by decide +kernel
theorem dX5_readLine_20 : decode cX5_readLine 20 = .ok (.aload_n 0, 1) := by decide +kernel
theorem dX5_readLine_21 : decode cX5_readLine 21 = .ok (.getfield 22, 3) := by decide +kernel
theorem dX5_readLine_24 : decode cX5_readLine 24 = .ok (.iload_n 1, 1) := by decide +kernel
theorem dX5_readLine_25 : decode cX5_readLine 25 = .ok (.baload, 1) := by decide +kernel
theorem dX5_readLine_26 : decode cX5_readLine 26 = .ok (.ifCond .eq 9, 3) := by decide +kernel
theorem dX5_readLine_29 : decode cX5_readLine 29 = .ok (.aload_n 0, 1) := by decide +kernel
theorem dX5_readLine_30 : decode cX5_readLine 30 = .ok (.iconst 4, 1) := by decide +kernel
theorem dX5_readLine_31 : decode cX5_readLine 31 = .ok (.invokevirtual 65, 3) := by decide +kernel
theorem dX5_readLine_34 : decode cX5_readLine 34 = .ok (.return_, 1) := by decide +kernel
theorem dX5_readLine_35 : decode cX5_readLine 35 = .ok (.aload_n 0, 1) := by decide +kernel
theorem dX5_readLine_36 : decode cX5_readLine 36 = .ok (.getfield 22, 3) := by decide +kernel
theorem dX5_readLine_39 : decode cX5_readLine 39 = .ok (.iload_n 1, 1) := by decide +kernel
theorem dX5_readLine_40 : decode cX5_readLine 40 = .ok (.iconst 1, 1) := by decide +kernel
theorem dX5_readLine_41 : decode cX5_readLine 41 = .ok (.bastore, 1) := by decide +kernel
theorem dX5_readLine_42 : decode cX5_readLine 42 = .ok (.aload_n 0, 1) := by decide +kernel
theorem dX5_readLine_43 : decode cX5_readLine 43 = .ok (.invokevirtual 32, 3) := by decide +kernel
theorem dX5_readLine_46 : decode cX5_readLine 46 = .ok (.iload_n 1, 1) := by decide +kernel
theorem dX5_readLine_47 : decode cX5_readLine 47 = .ok (.iconst 3, 1) := by decide +kernel
theorem dX5_readLine_48 : decode cX5_readLine 48 = .ok (.if_icmp .ge 11, 3) := by decide +kernel
theorem dX5_readLine_51 : decode cX5_readLine 51 = .ok (.aload_n 0, 1) := by decide +kernel
theorem dX5_readLine_52 : decode cX5_readLine 52 = .ok (.iload_n 1, 1) := by decide +kernel
theorem dX5_readLine_53 : decode cX5_readLine 53 = .ok (.invokevirtual 79, 3) := by decide +kernel
theorem dX5_readLine_56 : decode cX5_readLine 56 = .ok (.goto 33, 3) := by decide +kernel
theorem dX5_readLine_59 : decode cX5_readLine 59 = .ok (.iload_n 1, 1) := by decide +kernel
theorem dX5_readLine_60 : decode cX5_readLine 60 = .ok (.iconst 3, 1) := by decide +kernel
theorem dX5_readLine_61 : decode cX5_readLine 61 = .ok (.if_icmp .ne 10, 3) := by decide +kernel
theorem dX5_readLine_64 : decode cX5_readLine 64 = .ok (.aload_n 0, 1) := by decide +kernel
theorem dX5_readLine_65 : decode cX5_readLine 65 = .ok (.invokevirtual 82, 3) := by decide +kernel
theorem dX5_readLine_68 : decode cX5_readLine 68 = .ok (.goto 21, 3) := by decide +kernel
theorem dX5_readLine_71 : decode cX5_readLine 71 = .ok (.aload_n 0, 1) := by decide +kernel
theorem dX5_readLine_72 : decode cX5_readLine 72 = .ok (.getfield 12, 3) := by decide +kernel
theorem dX5_readLine_75 : decode cX5_readLine 75 = .ok (.getfield 85, 3) := by decide +kernel
theorem dX5_readLine_78 : decode cX5_readLine 78 = .ok (.iload_n 1, 1) := by decide +kernel
theorem dX5_readLine_79 : decode cX5_readLine 79 = .ok (.aload_n 0, 1) := by decide +kernel
theorem dX5_readLine_80 : decode cX5_readLine 80 = .ok (.iload_n 1, 1) := by decide +kernel
theorem dX5_readLine_81 : decode cX5_readLine 81 = .ok (.invokevirtual 89, 3) := by decide +kernel
theorem dX5_readLine_84 : decode cX5_readLine 84 = .ok (.iastore, 1) := by decide +kernel
theorem dX5_readLine_85 : decode cX5_readLine 85 = .ok (.aload_n 0, 1) := by decide +kernel
theorem dX5_readLine_86 : decode cX5_readLine 86 = .ok (.invokevirtual 32, 3) := by decide +kernel
theorem dX5_readLine_89 : decode cX5_readLine 89 = .ok (.aload_n 0, 1) := by decide +kernel
theorem dX5_readLine_90 : decode cX5_readLine 90 = .ok (.invokevirtual 93, 3) := by decide +kernel
theorem dX5_readLine_93 : decode cX5_readLine 93 = .ok (.return_, 1) := by decide +kernel
set_option maxRecDepth 20000 in
theorem ggX5_readPartLine_X7_letter : GoodIn wsX5_readPartLine wsX7_letter := goodIn_r _ [10, 11, 12, 13, 14, 62, 63, 64, 65, 66] (by decide +kernel) (by decide +kernel)
set_option maxRecDepth 20000 in
theorem gX5_readPartLine_X7_letter : GoodIn wsX5_readPartLine (wsV RX5 96 RX7 yX7_letter wsX7_letter) := goodIn_app (goodIn_of _ (by decide +kernel)) ggX5_readPartLine_X7_letter
set_option maxRecDepth 20000 in
theorem ggX5_readPartLine_X9_isPart : GoodIn wsX5_readPartLine wsX9_isPart := goodIn_r _ [17] (by decide +kernel) (by decide +kernel)
set_option maxRecDepth 20000 in
theorem gX5_readPartLine_X9_isPart_n99 : GoodIn wsX5_readPartLine (wsX9_isPart) := ggX5_readPartLine_X9_isPart
set_option maxRecDepth 20000 in
theorem ggX5_readPartLine_X5_fail : GoodIn wsX5_readPartLine wsX5_fail := goodIn_r _ [22, 1, 2, 23, 24, 49, 50, 51, 52, 53, 54, 55, 62, 63, 64, 65, 66] (by decide +kernel) (by decide +kernel)
set_option maxRecDepth 20000 in
theorem gX5_readPartLine_X5_fail : GoodIn wsX5_readPartLine (wsV RX5 65 RX5 yX5_fail wsX5_fail) := goodIn_app (goodIn_of _ (by decide +kernel)) ggX5_readPartLine_X5_fail
set_option maxRecDepth 20000 in
theorem ggX5_readPartLine_X5_advance : GoodIn wsX5_readPartLine wsX5_advance := goodIn_r _ [28, 1, 2, 29, 30, 31, 32, 9, 33, 12, 34, 14, 13, 11, 35, 36, 37, 38, 18, 19, 20, 21, 22, 23, 24, 49, 50, 51, 52, 53, 54, 55, 62, 63, 64, 65, 66] (by decide +kernel) (by decide +kernel)
set_option maxRecDepth 20000 in
theorem gX5_readPartLine_X5_advance : GoodIn wsX5_readPartLine (wsV RX5 32 RX5 yX5_advance wsX5_advance) := goodIn_app (goodIn_of _ (by decide +kernel)) ggX5_readPartLine_X5_advance
set_option maxRecDepth 20000 in
theorem ggX5_readPartLine_X5_seenNumber : GoodIn wsX5_readPartLine wsX5_seenNumber := goodIn_r _ [42, 2, 29, 43, 44, 18, 19, 20, 21, 22, 1, 23, 24, 45, 46, 47, 9, 48, 13, 12, 14, 49, 50, 51, 52, 53, 54, 55, 62, 63, 64, 65, 66] (by decide +kernel) (by decide +kernel)
set_option maxRecDepth 20000 in
theorem gX5_readPartLine_X5_seenNumber : GoodIn wsX5_readPartLine (wsV RX5 89 RX5 yX5_seenNumber wsX5_seenNumber) := goodIn_app (goodIn_of _ (by decide +kernel)) ggX5_readPartLine_X5_seenNumber
theorem dX5_readPartLine_0 : decode cX5_readPartLine 0 = .ok (.aload_n 0, 1) := by decide +kernel
theorem dX5_readPartLine_1 : decode cX5_readPartLine 1 = .ok (.getfield 37, 3) := by decide +kernel
theorem dX5_readPartLine_4 : decode cX5_readPartLine 4 = .ok (.ifCond .eq 4, 3) := by decide +kernel
theorem dX5_readPartLine_7 : decode cX5_readPartLine 7 = .ok (.return_, 1) := by decide +kernel
theorem dX5_readPartLine_8 : decode cX5_readPartLine 8 = .ok (.aload_n 0, 1) := by decide +kernel
theorem dX5_readPartLine_9 : decode cX5_readPartLine 9 = .ok (.getfield 25, 3) := by decide +kernel
theorem dX5_readPartLine_12 : decode cX5_readPartLine 12 = .ok (.invokevirtual 96, 3) := by decide +kernel
theorem dX5_readPartLine_15 : decode cX5_readPartLine 15 = .ok (.istore_n 2, 1) := by decide +kernel
theorem dX5_readPartLine_16 : decode cX5_readPartLine 16 = .ok (.iload_n 2, 1) := by decide +kernel
theorem dX5_readPartLine_17 : decode cX5_readPartLine 17 = .ok (.invokestatic 99, 3) := by decide +kernel
theorem dX5_readPartLine_20 : decode cX5_readPartLine 20 = .ok (.ifCond .ne 9, 3) := by decide +kernel
theorem dX5_readPartLine_23 : decode cX5_readPartLine 23 = .ok (.aload_n 0, 1) := by decide +kernel
theorem dX5_readPartLine_24 : decode cX5_readPartLine 24 = .ok (.iconst 2, 1) := by decide +kernel
theorem dX5_readPartLine_25 : decode cX5_readPartLine 25 = .ok (.invokevirtual 65, 3) := by decide +kernel
theorem dX5_readPartLine_28 : decode cX5_readPartLine 28 = .ok (.return_, 1) := by decide +kernel
theorem dX5_readPartLine_29 : decode cX5_readPartLine 29 = .ok (.iconst 4, 1) := by decide +kernel
theorem dX5_readPartLine_30 : decode cX5_readPartLine 30 = .ok (.iload_n 1, 1) := by decide +kernel
theorem dX5_readPartLine_31 : decode cX5_readPartLine 31 = .ok (.imul, 1) := by decide +kernel
theorem dX5_readPartLine_32 : decode cX5_readPartLine 32 = .ok (.iload_n 2, 1) := by decide +kernel
theorem dX5_readPartLine_33 : decode cX5_readPartLine 33 = .ok (.iadd, 1) := by decide +kernel
theorem dX5_readPartLine_34 : decode cX5_readPartLine 34 = .ok (.istore_n 3, 1) := by decide +kernel
theorem dX5_readPartLine_35 : decode cX5_readPartLine 35 = .ok (.aload_n 0, 1) := by decide +kernel
theorem dX5_readPartLine_36 : decode cX5_readPartLine 36 = .ok (.getfield 18, 3) := by decide +kernel
theorem dX5_readPartLine_39 : decode cX5_readPartLine 39 = .ok (.iload_n 3, 1) := by decide +kernel
theorem dX5_readPartLine_40 : decode cX5_readPartLine 40 = .ok (.baload, 1) := by decide +kernel
theorem dX5_readPartLine_41 : decode cX5_readPartLine 41 = .ok (.ifCond .eq 9, 3) := by decide +kernel
theorem dX5_readPartLine_44 : decode cX5_readPartLine 44 = .ok (.aload_n 0, 1) := by decide +kernel
theorem dX5_readPartLine_45 : decode cX5_readPartLine 45 = .ok (.iconst 4, 1) := by decide +kernel
theorem dX5_readPartLine_46 : decode cX5_readPartLine 46 = .ok (.invokevirtual 65, 3) := by decide +kernel
theorem dX5_readPartLine_49 : decode cX5_readPartLine 49 = .ok (.return_, 1) := by decide +kernel
theorem dX5_readPartLine_50 : decode cX5_readPartLine 50 = .ok (.aload_n 0, 1) := by decide +kernel
theorem dX5_readPartLine_51 : decode cX5_readPartLine 51 = .ok (.getfield 18, 3) := by decide +kernel
theorem dX5_readPartLine_54 : decode cX5_readPartLine 54 = .ok (.iload_n 3, 1) := by decide +kernel
theorem dX5_readPartLine_55 : decode cX5_readPartLine 55 = .ok (.iconst 1, 1) := by decide +kernel
theorem dX5_readPartLine_56 : decode cX5_readPartLine 56 = .ok (.bastore, 1) := by decide +kernel
theorem dX5_readPartLine_57 : decode cX5_readPartLine 57 = .ok (.aload_n 0, 1) := by decide +kernel
theorem dX5_readPartLine_58 : decode cX5_readPartLine 58 = .ok (.invokevirtual 32, 3) := by decide +kernel
theorem dX5_readPartLine_61 : decode cX5_readPartLine 61 = .ok (.aload_n 0, 1) := by decide +kernel
theorem dX5_readPartLine_62 : decode cX5_readPartLine 62 = .ok (.getfield 12, 3) := by decide +kernel
theorem dX5_readPartLine_65 : decode cX5_readPartLine 65 = .ok (.getfield 103, 3) := by decide +kernel
theorem dX5_readPartLine_68 : decode cX5_readPartLine 68 = .ok (.iload_n 3, 1) := by decide +kernel
theorem dX5_readPartLine_69 : decode cX5_readPartLine 69 = .ok (.aload_n 0, 1) := by decide +kernel
theorem dX5_readPartLine_70 : decode cX5_readPartLine 70 = .ok (.iload_n 1, 1) := by decide +kernel
theorem dX5_readPartLine_71 : decode cX5_readPartLine 71 = .ok (.invokevirtual 89, 3) := by decide +kernel
theorem dX5_readPartLine_74 : decode cX5_readPartLine 74 = .ok (.iastore, 1) := by decide +kernel
theorem dX5_readPartLine_75 : decode cX5_readPartLine 75 = .ok (.aload_n 0, 1) := by decide +kernel
theorem dX5_readPartLine_76 : decode cX5_readPartLine 76 = .ok (.invokevirtual 32, 3) := by decide +kernel
theorem dX5_readPartLine_79 : decode cX5_readPartLine 79 = .ok (.return_, 1) := by decide +kernel
set_option maxRecDepth 20000 in
theorem ggX5_readHits_X5_seenNumber : GoodIn wsX5_readHits wsX5_seenNumber := goodIn_r _ [8, 9, 10, 11, 12, 13, 14, 15, 7, 16, 1, 17, 18, 19, 20, 21, 22, 23, 24, 25, 26, 41, 42, 43, 44, 45, 46, 47, 54, 55, 56, 57, 58] (by decide +kernel) (by decide +kernel)
set_option maxRecDepth 20000 in
theorem gX5_readHits_X5_seenNumber : GoodIn wsX5_readHits (wsV RX5 89 RX5 yX5_seenNumber wsX5_seenNumber) := goodIn_app (goodIn_of _ (by decide +kernel)) ggX5_readHits_X5_seenNumber
set_option maxRecDepth 20000 in
theorem ggX5_readHits_X5_fail : GoodIn wsX5_readHits wsX5_fail := goodIn_r _ [16, 1, 9, 17, 18, 41, 42, 43, 44, 45, 46, 47, 54, 55, 56, 57, 58] (by decide +kernel) (by decide +kernel)
set_option maxRecDepth 20000 in
theorem gX5_readHits_X5_fail : GoodIn wsX5_readHits (wsV RX5 65 RX5 yX5_fail wsX5_fail) := goodIn_app (goodIn_of _ (by decide +kernel)) ggX5_readHits_X5_fail
set_option maxRecDepth 20000 in
theorem ggX5_readHits_X5_advance : GoodIn wsX5_readHits wsX5_advance := goodIn_r _ [30, 1, 9, 10, 31, 32, 33, 22, 34, 25, 35, 26, 24, 36, 37, 38, 39, 40, 13, 14, 15, 7, 16, 17, 18, 41, 42, 43, 44, 45, 46, 47, 54, 55, 56, 57, 58] (by decide +kernel) (by decide +kernel)
set_option maxRecDepth 20000 in
theorem gX5_readHits_X5_advance : GoodIn wsX5_readHits (wsV RX5 32 RX5 yX5_advance wsX5_advance) := goodIn_app (goodIn_of _ (by decide +kernel)) ggX5_readHits_X5_advance
theorem dX5_readHits_0 : decode cX5_readHits 0 = .ok (.iconst 0, 1) := by decide +kernel
theorem dX5_readHits_1 : decode cX5_readHits 1 = .ok (.istore_n 1, 1) := by decide +kernel
theorem dX5_readHits_2 : decode cX5_readHits 2 = .ok (.iconst 0, 1) := by decide +kernel
theorem dX5_readHits_3 : decode cX5_readHits 3 = .ok (.istore_n 2, 1) := by decide +kernel
theorem dX5_readHits_4 : decode cX5_readHits 4 = .ok (.iload_n 2, 1) := by decide +kernel
theorem dX5_readHits_5 : decode cX5_readHits 5 = .ok (.iconst 3, 1) := by decide +kernel
theorem dX5_readHits_6 : decode cX5_readHits 6 = .ok (.if_icmp .gt 60, 3) := by decide +kernel
theorem dX5_readHits_9 : decode cX5_readHits 9 = .ok (.aload_n 0, 1) := by decide +kernel
theorem dX5_readHits_10 : decode cX5_readHits 10 = .ok (.getfield 37, 3) := by decide +kernel
theorem dX5_readHits_13 : decode cX5_readHits 13 = .ok (.ifCond .ne 53, 3) := by decide +kernel
theorem dX5_readHits_16 : decode cX5_readHits 16 = .ok (.aload_n 0, 1) := by decide +kernel
theorem dX5_readHits_17 : decode cX5_readHits 17 = .ok (.getfield 12, 3) := by decide +kernel
theorem dX5_readHits_20 : decode cX5_readHits 20 = .ok (.getfield 85, 3) := by decide +kernel
theorem dX5_readHits_23 : decode cX5_readHits 23 = .ok (.iload_n 2, 1) := by decide +kernel
theorem dX5_readHits_24 : decode cX5_readHits 24 = .ok (.aload_n 0, 1) := by decide +kernel
theorem dX5_readHits_25 : decode cX5_readHits 25 = .ok (.iconst 3, 1) := by decide +kernel
theorem dX5_readHits_26 : decode cX5_readHits 26 = .ok (.invokevirtual 89, 3) := by decide +kernel
theorem dX5_readHits_29 : decode cX5_readHits 29 = .ok (.iastore, 1) := by decide +kernel
theorem dX5_readHits_30 : decode cX5_readHits 30 = .ok (.iload_n 1, 1) := by decide +kernel
theorem dX5_readHits_31 : decode cX5_readHits 31 = .ok (.aload_n 0, 1) := by decide +kernel
theorem dX5_readHits_32 : decode cX5_readHits 32 = .ok (.getfield 12, 3) := by decide +kernel
theorem dX5_readHits_35 : decode cX5_readHits 35 = .ok (.getfield 85, 3) := by decide +kernel
theorem dX5_readHits_38 : decode cX5_readHits 38 = .ok (.iload_n 2, 1) := by decide +kernel
theorem dX5_readHits_39 : decode cX5_readHits 39 = .ok (.iaload, 1) := by decide +kernel
theorem dX5_readHits_40 : decode cX5_readHits 40 = .ok (.iadd, 1) := by decide +kernel
theorem dX5_readHits_41 : decode cX5_readHits 41 = .ok (.istore_n 1, 1) := by decide +kernel
theorem dX5_readHits_42 : decode cX5_readHits 42 = .ok (.iload_n 2, 1) := by decide +kernel
theorem dX5_readHits_43 : decode cX5_readHits 43 = .ok (.iconst 3, 1) := by decide +kernel
theorem dX5_readHits_44 : decode cX5_readHits 44 = .ok (.if_icmp .ne 12, 3) := by decide +kernel
theorem dX5_readHits_47 : decode cX5_readHits 47 = .ok (.iload_n 1, 1) := by decide +kernel
theorem dX5_readHits_48 : decode cX5_readHits 48 = .ok (.ifCond .ne 8, 3) := by decide +kernel
theorem dX5_readHits_51 : decode cX5_readHits 51 = .ok (.aload_n 0, 1) := by decide +kernel
theorem dX5_readHits_52 : decode cX5_readHits 52 = .ok (.iconst 3, 1) := by decide +kernel
theorem dX5_readHits_53 : decode cX5_readHits 53 = .ok (.invokevirtual 65, 3) := by decide +kernel
theorem dX5_readHits_56 : decode cX5_readHits 56 = .ok (.aload_n 0, 1) := by decide +kernel
theorem dX5_readHits_57 : decode cX5_readHits 57 = .ok (.invokevirtual 32, 3) := by decide +kernel
theorem dX5_readHits_60 : decode cX5_readHits 60 = .ok (.iinc 2 1, 3) := by decide +kernel
theorem dX5_readHits_63 : decode cX5_readHits 63 = .ok (.goto (-59), 3) := by decide +kernel
theorem dX5_readHits_66 : decode cX5_readHits 66 = .ok (.return_, 1) := by decide +kernel
set_option maxRecDepth 20000 in
theorem ggX5_seenNumber_X5_fail : GoodIn wsX5_seenNumber wsX5_fail := goodIn_r _ [9, 10, 1, 11, 12, 21, 22, 23, 24, 25, 26, 27, 28, 29, 30, 31, 32] (by decide +kernel) (by decide +kernel)
set_option maxRecDepth 20000 in
theorem gX5_seenNumber_X5_fail : GoodIn wsX5_seenNumber (wsV RX5 65 RX5 yX5_fail wsX5_fail) := goodIn_app (goodIn_of _ (by decide +kernel)) ggX5_seenNumber_X5_fail
set_option maxRecDepth 20000 in
theorem ggX5_seenNumber_X7_number : GoodIn wsX5_seenNumber wsX7_number := goodIn_r _ [17, 18, 19, 20, 28, 29, 30, 31, 32] (by decide +kernel) (by decide +kernel)
set_option maxRecDepth 20000 in
theorem gX5_seenNumber_X7_number : GoodIn wsX5_seenNumber (wsV RX5 106 RX7 yX7_number wsX7_number) := goodIn_app (goodIn_of _ (by decide +kernel)) ggX5_seenNumber_X7_number
theorem dX5_seenNumber_0 : decode cX5_seenNumber 0 = .ok (.aload_n 0, 1) := by decide +kernel
theorem dX5_seenNumber_1 : decode cX5_seenNumber 1 = .ok (.getfield 25, 3) := by decide +kernel
theorem dX5_seenNumber_4 : decode cX5_seenNumber 4 = .ok (.getfield 41, 3) := by decide +kernel
theorem dX5_seenNumber_7 : decode cX5_seenNumber 7 = .ok (.iconst 3, 1) := by decide +kernel
theorem dX5_seenNumber_8 : decode cX5_seenNumber 8 = .ok (.if_icmp .eq 10, 3) := by decide +kernel
theorem dX5_seenNumber_11 : decode cX5_seenNumber 11 = .ok (.aload_n 0, 1) := by decide +kernel
theorem dX5_seenNumber_12 : decode cX5_seenNumber 12 = .ok (.iconst 2, 1) := by decide +kernel
theorem dX5_seenNumber_13 : decode cX5_seenNumber 13 = .ok (.invokevirtual 65, 3) := by decide +kernel
theorem dX5_seenNumber_16 : decode cX5_seenNumber 16 = .ok (.iconst 0, 1) := by decide +kernel
theorem dX5_seenNumber_17 : decode cX5_seenNumber 17 = .ok (.ireturn, 1) := by decide +kernel
theorem dX5_seenNumber_18 : decode cX5_seenNumber 18 = .ok (.aload_n 0, 1) := by decide +kernel
theorem dX5_seenNumber_19 : decode cX5_seenNumber 19 = .ok (.getfield 25, 3) := by decide +kernel
theorem dX5_seenNumber_22 : decode cX5_seenNumber 22 = .ok (.invokevirtual 106, 3) := by decide +kernel
theorem dX5_seenNumber_25 : decode cX5_seenNumber 25 = .ok (.istore_n 2, 1) := by decide +kernel
theorem dX5_seenNumber_26 : decode cX5_seenNumber 26 = .ok (.iload_n 2, 1) := by decide +kernel
theorem dX5_seenNumber_27 : decode cX5_seenNumber 27 = .ok (.getstatic 109, 3) := by decide +kernel
theorem dX5_seenNumber_30 : decode cX5_seenNumber 30 = .ok (.iload_n 1, 1) := by decide +kernel
theorem dX5_seenNumber_31 : decode cX5_seenNumber 31 = .ok (.iaload, 1) := by decide +kernel
theorem dX5_seenNumber_32 : decode cX5_seenNumber 32 = .ok (.if_icmp .lt 12, 3) := by decide +kernel
theorem dX5_seenNumber_35 : decode cX5_seenNumber 35 = .ok (.iload_n 2, 1) := by decide +kernel
theorem dX5_seenNumber_36 : decode cX5_seenNumber 36 = .ok (.getstatic 112, 3) := by decide +kernel
theorem dX5_seenNumber_39 : decode cX5_seenNumber 39 = .ok (.iload_n 1, 1) := by decide +kernel
theorem dX5_seenNumber_40 : decode cX5_seenNumber 40 = .ok (.iaload, 1) := by decide +kernel
theorem dX5_seenNumber_41 : decode cX5_seenNumber 41 = .ok (.if_icmp .le 8, 3) := by decide +kernel
theorem dX5_seenNumber_44 : decode cX5_seenNumber 44 = .ok (.aload_n 0, 1) := by decide +kernel
theorem dX5_seenNumber_45 : decode cX5_seenNumber 45 = .ok (.iconst 3, 1) := by decide +kernel
theorem dX5_seenNumber_46 : decode cX5_seenNumber 46 = .ok (.invokevirtual 65, 3) := by decide +kernel
theorem dX5_seenNumber_49 : decode cX5_seenNumber 49 = .ok (.iload_n 2, 1) := by decide +kernel
theorem dX5_seenNumber_50 : decode cX5_seenNumber 50 = .ok (.ireturn, 1) := by decide +kernel
set_option maxRecDepth 20000 in
theorem ggX5_readClose_X5_fail : GoodIn wsX5_readClose wsX5_fail := goodIn_r _ [9, 1, 2, 10, 11, 30, 31, 32, 33, 34, 35, 36, 37, 38, 39, 40, 41] (by decide +kernel) (by decide +kernel)
set_option maxRecDepth 20000 in
theorem gX5_readClose_X5_fail : GoodIn wsX5_readClose (wsV RX5 65 RX5 yX5_fail wsX5_fail) := goodIn_app (goodIn_of _ (by decide +kernel)) ggX5_readClose_X5_fail
set_option maxRecDepth 20000 in
theorem ggX5_readClose_X5_advance : GoodIn wsX5_readClose wsX5_advance := goodIn_r _ [15, 1, 2, 3, 16, 17, 18, 19, 20, 21, 22, 23, 24, 25, 26, 27, 28, 29, 5, 6, 7, 8, 9, 10, 11, 30, 31, 32, 33, 34, 35, 36, 37, 38, 39, 40, 41] (by decide +kernel) (by decide +kernel)
set_option maxRecDepth 20000 in
theorem gX5_readClose_X5_advance : GoodIn wsX5_readClose (wsV RX5 32 RX5 yX5_advance wsX5_advance) := goodIn_app (goodIn_of _ (by decide +kernel)) ggX5_readClose_X5_advance
theorem dX5_readClose_0 : decode cX5_readClose 0 = .ok (.aload_n 0, 1) := by decide +kernel
theorem dX5_readClose_1 : decode cX5_readClose 1 = .ok (.getfield 37, 3) := by decide +kernel
theorem dX5_readClose_4 : decode cX5_readClose 4 = .ok (.ifCond .eq 4, 3) := by decide +kernel
theorem dX5_readClose_7 : decode cX5_readClose 7 = .ok (.return_, 1) := by decide +kernel
theorem dX5_readClose_8 : decode cX5_readClose 8 = .ok (.aload_n 0, 1) := by decide +kernel
theorem dX5_readClose_9 : decode cX5_readClose 9 = .ok (.getfield 25, 3) := by decide +kernel
theorem dX5_readClose_12 : decode cX5_readClose 12 = .ok (.getfield 41, 3) := by decide +kernel
theorem dX5_readClose_15 : decode cX5_readClose 15 = .ok (.iconst 4, 1) := by decide +kernel
theorem dX5_readClose_16 : decode cX5_readClose 16 = .ok (.if_icmp .eq 9, 3) := by decide +kernel
theorem dX5_readClose_19 : decode cX5_readClose 19 = .ok (.aload_n 0, 1) := by decide +kernel
theorem dX5_readClose_20 : decode cX5_readClose 20 = .ok (.iconst 2, 1) := by decide +kernel
theorem dX5_readClose_21 : decode cX5_readClose 21 = .ok (.invokevirtual 65, 3) := by decide +kernel
theorem dX5_readClose_24 : decode cX5_readClose 24 = .ok (.return_, 1) := by decide +kernel
theorem dX5_readClose_25 : decode cX5_readClose 25 = .ok (.aload_n 0, 1) := by decide +kernel
theorem dX5_readClose_26 : decode cX5_readClose 26 = .ok (.dup, 1) := by decide +kernel
theorem dX5_readClose_27 : decode cX5_readClose 27 = .ok (.getfield 53, 3) := by decide +kernel
theorem dX5_readClose_30 : decode cX5_readClose 30 = .ok (.iconst 1, 1) := by decide +kernel
theorem dX5_readClose_31 : decode cX5_readClose 31 = .ok (.iadd, 1) := by decide +kernel
theorem dX5_readClose_32 : decode cX5_readClose 32 = .ok (.putfield 53, 3) := by decide +kernel
theorem dX5_readClose_35 : decode cX5_readClose 35 = .ok (.aload_n 0, 1) := by decide +kernel
theorem dX5_readClose_36 : decode cX5_readClose 36 = .ok (.invokevirtual 32, 3) := by decide +kernel
theorem dX5_readClose_39 : decode cX5_readClose 39 = .ok (.return_, 1) := by decide +kernel
theorem dX6_init_0 : decode cX6_init 0 = .ok (.aload_n 0, 1) := by decide +kernel
theorem dX6_init_1 : decode cX6_init 1 = .ok (.invokespecial 3, 3) := by decide +kernel
theorem dX6_init_4 : decode cX6_init 4 = .ok (.aload_n 0, 1) := by decide +kernel
theorem dX6_init_5 : decode cX6_init 5 = .ok (.bipush 48, 2) := by decide +kernel
theorem dX6_init_7 : decode cX6_init 7 = .ok (.newarray .int, 2) := by decide +kernel
theorem dX6_init_9 : decode cX6_init 9 = .ok (.putfield 11, 3) := by decide +kernel
theorem dX6_init_12 : decode cX6_init 12 = .ok (.aload_n 0, 1) := by decide +kernel
theorem dX6_init_13 : decode cX6_init 13 = .ok (.iconst (-1), 1) := by decide +kernel
theorem dX6_init_14 : decode cX6_init 14 = .ok (.putfield 15, 3) := by decide +kernel
theorem dX6_init_17 : decode cX6_init 17 = .ok (.return_, 1) := by decide +kernel
theorem dX6_renew_0 : decode cX6_renew 0 = .ok (.aload_n 0, 1) := by decide +kernel
theorem dX6_renew_1 : decode cX6_renew 1 = .ok (.iload_n 1, 1) := by decide +kernel
theorem dX6_renew_2 : decode cX6_renew 2 = .ok (.putfield 15, 3) := by decide +kernel
theorem dX6_renew_5 : decode cX6_renew 5 = .ok (.aload_n 0, 1) := by decide +kernel
theorem dX6_renew_6 : decode cX6_renew 6 = .ok (.iload_n 2, 1) := by decide +kernel
theorem dX6_renew_7 : decode cX6_renew 7 = .ok (.putfield 19, 3) := by decide +kernel
theorem dX6_renew_10 : decode cX6_renew 10 = .ok (.iconst 0, 1) := by decide +kernel
theorem dX6_renew_11 : decode cX6_renew 11 = .ok (.istore_n 3, 1) := by decide +kernel
theorem dX6_renew_12 : decode cX6_renew 12 = .ok (.iload_n 3, 1) := by decide +kernel
theorem dX6_renew_13 : decode cX6_renew 13 = .ok (.bipush 48, 2) := by decide +kernel
theorem dX6_renew_15 : decode cX6_renew 15 = .ok (.if_icmp .ge 16, 3) := by decide +kernel
theorem dX6_renew_18 : decode cX6_renew 18 = .ok (.aload_n 0, 1) := by decide +kernel
theorem dX6_renew_19 : decode cX6_renew 19 = .ok (.getfield 11, 3) := by decide +kernel
theorem dX6_renew_22 : decode cX6_renew 22 = .ok (.iload_n 3, 1) := by decide +kernel
theorem dX6_renew_23 : decode cX6_renew 23 = .ok (.iconst 0, 1) := by decide +kernel
theorem dX6_renew_24 : decode cX6_renew 24 = .ok (.iastore, 1) := by decide +kernel
theorem dX6_renew_25 : decode cX6_renew 25 = .ok (.iinc 3 1, 3) := by decide +kernel
theorem dX6_renew_28 : decode cX6_renew 28 = .ok (.goto (-16), 3) := by decide +kernel
theorem dX6_renew_31 : decode cX6_renew 31 = .ok (.return_, 1) := by decide +kernel
theorem dX6_faultAt_0 : decode cX6_faultAt 0 = .ok (.aload_n 0, 1) := by decide +kernel
theorem dX6_faultAt_1 : decode cX6_faultAt 1 = .ok (.getfield 15, 3) := by decide +kernel
theorem dX6_faultAt_4 : decode cX6_faultAt 4 = .ok (.iconst (-1), 1) := by decide +kernel
theorem dX6_faultAt_5 : decode cX6_faultAt 5 = .ok (.if_icmp .ne 5, 3) := by decide +kernel
theorem dX6_faultAt_8 : decode cX6_faultAt 8 = .ok (.iconst 1, 1) := by decide +kernel
theorem dX6_faultAt_9 : decode cX6_faultAt 9 = .ok (.ireturn, 1) := by decide +kernel
theorem dX6_faultAt_10 : decode cX6_faultAt 10 = .ok (.aload_n 0, 1) := by decide +kernel
theorem dX6_faultAt_11 : decode cX6_faultAt 11 = .ok (.getfield 15, 3) := by decide +kernel
theorem dX6_faultAt_14 : decode cX6_faultAt 14 = .ok (.iload_n 1, 1) := by decide +kernel
theorem dX6_faultAt_15 : decode cX6_faultAt 15 = .ok (.if_icmp .eq 5, 3) := by decide +kernel
theorem dX6_faultAt_18 : decode cX6_faultAt 18 = .ok (.iconst 3, 1) := by decide +kernel
theorem dX6_faultAt_19 : decode cX6_faultAt 19 = .ok (.ireturn, 1) := by decide +kernel
theorem dX6_faultAt_20 : decode cX6_faultAt 20 = .ok (.iload_n 2, 1) := by decide +kernel
theorem dX6_faultAt_21 : decode cX6_faultAt 21 = .ok (.ifCond .lt 11, 3) := by decide +kernel
theorem dX6_faultAt_24 : decode cX6_faultAt 24 = .ok (.iload_n 2, 1) := by decide +kernel
theorem dX6_faultAt_25 : decode cX6_faultAt 25 = .ok (.aload_n 0, 1) := by decide +kernel
theorem dX6_faultAt_26 : decode cX6_faultAt 26 = .ok (.getfield 19, 3) := by decide +kernel
theorem dX6_faultAt_29 : decode cX6_faultAt 29 = .ok (.if_icmp .lt 7, 3) := by decide +kernel
theorem dX6_faultAt_32 : decode cX6_faultAt 32 = .ok (.iconst 2, 1) := by decide +kernel
theorem dX6_faultAt_33 : decode cX6_faultAt 33 = .ok (.goto 4, 3) := by decide +kernel
theorem dX6_faultAt_36 : decode cX6_faultAt 36 = .ok (.iconst 0, 1) := by decide +kernel
theorem dX6_faultAt_37 : decode cX6_faultAt 37 = .ok (.ireturn, 1) := by decide +kernel
set_option maxRecDepth 20000 in
theorem ggX6_faultOfHome_X6_faultAt : GoodIn wsX6_faultOfHome wsX6_faultAt := goodIn_r _ [5, 6, 7, 8, 9, 10] (by decide +kernel) (by decide +kernel)
set_option maxRecDepth 20000 in
theorem gX6_faultOfHome_X6_faultAt : GoodIn wsX6_faultOfHome (wsV RX6 22 RX6 yX6_faultAt wsX6_faultAt) := goodIn_app (goodIn_of _ (by decide +kernel)) ggX6_faultOfHome_X6_faultAt
theorem dX6_faultOfHome_0 : decode cX6_faultOfHome 0 = .ok (.iconst 0, 1) := by decide +kernel
theorem dX6_faultOfHome_1 : decode cX6_faultOfHome 1 = .ok (.istore_n 3, 1) := by decide +kernel
theorem dX6_faultOfHome_2 : decode cX6_faultOfHome 2 = .ok (.iconst 0, 1) := by decide +kernel
theorem dX6_faultOfHome_3 : decode cX6_faultOfHome 3 = .ok (.istore 4, 2) := by decide +kernel
theorem dX6_faultOfHome_5 : decode cX6_faultOfHome 5 = .ok (.iload 4, 2) := by decide +kernel
theorem dX6_faultOfHome_7 : decode cX6_faultOfHome 7 = .ok (.iconst 4, 1) := by decide +kernel
theorem dX6_faultOfHome_8 : decode cX6_faultOfHome 8 = .ok (.if_icmp .ge 23, 3) := by decide +kernel
theorem dX6_faultOfHome_11 : decode cX6_faultOfHome 11 = .ok (.iload_n 3, 1) := by decide +kernel
theorem dX6_faultOfHome_12 : decode cX6_faultOfHome 12 = .ok (.ifCond .ne 19, 3) := by decide +kernel
theorem dX6_faultOfHome_15 : decode cX6_faultOfHome 15 = .ok (.aload_n 0, 1) := by decide +kernel
theorem dX6_faultOfHome_16 : decode cX6_faultOfHome 16 = .ok (.iload_n 1, 1) := by decide +kernel
theorem dX6_faultOfHome_17 : decode cX6_faultOfHome 17 = .ok (.iload_n 2, 1) := by decide +kernel
theorem dX6_faultOfHome_18 : decode cX6_faultOfHome 18 = .ok (.iload 4, 2) := by decide +kernel
theorem dX6_faultOfHome_20 : decode cX6_faultOfHome 20 = .ok (.iadd, 1) := by decide +kernel
theorem dX6_faultOfHome_21 : decode cX6_faultOfHome 21 = .ok (.invokevirtual 22, 3) := by decide +kernel
theorem dX6_faultOfHome_24 : decode cX6_faultOfHome 24 = .ok (.istore_n 3, 1) := by decide +kernel
theorem dX6_faultOfHome_25 : decode cX6_faultOfHome 25 = .ok (.iinc 4 1, 3) := by decide +kernel
theorem dX6_faultOfHome_28 : decode cX6_faultOfHome 28 = .ok (.goto (-23), 3) := by decide +kernel
theorem dX6_faultOfHome_31 : decode cX6_faultOfHome 31 = .ok (.iload_n 3, 1) := by decide +kernel
theorem dX6_faultOfHome_32 : decode cX6_faultOfHome 32 = .ok (.ireturn, 1) := by decide +kernel
set_option maxRecDepth 20000 in
theorem ggX6_isHome_X6_cell : GoodIn wsX6_isHome wsX6_cell := goodIn_r _ [5, 6, 7, 8, 9] (by decide +kernel) (by decide +kernel)
set_option maxRecDepth 20000 in
theorem gX6_isHome_X6_cell : GoodIn wsX6_isHome (wsV RX6 26 RX6 yX6_cell wsX6_cell) := goodIn_app (goodIn_of _ (by decide +kernel)) ggX6_isHome_X6_cell
theorem dX6_isHome_0 : decode cX6_isHome 0 = .ok (.iconst 0, 1) := by decide +kernel
theorem dX6_isHome_1 : decode cX6_isHome 1 = .ok (.istore_n 2, 1) := by decide +kernel
theorem dX6_isHome_2 : decode cX6_isHome 2 = .ok (.iconst 0, 1) := by decide +kernel
theorem dX6_isHome_3 : decode cX6_isHome 3 = .ok (.istore_n 3, 1) := by decide +kernel
theorem dX6_isHome_4 : decode cX6_isHome 4 = .ok (.iload_n 3, 1) := by decide +kernel
theorem dX6_isHome_5 : decode cX6_isHome 5 = .ok (.iconst 4, 1) := by decide +kernel
theorem dX6_isHome_6 : decode cX6_isHome 6 = .ok (.if_icmp .ge 36, 3) := by decide +kernel
theorem dX6_isHome_9 : decode cX6_isHome 9 = .ok (.aload_n 0, 1) := by decide +kernel
theorem dX6_isHome_10 : decode cX6_isHome 10 = .ok (.iload_n 1, 1) := by decide +kernel
theorem dX6_isHome_11 : decode cX6_isHome 11 = .ok (.iload_n 3, 1) := by decide +kernel
theorem dX6_isHome_12 : decode cX6_isHome 12 = .ok (.iadd, 1) := by decide +kernel
theorem dX6_isHome_13 : decode cX6_isHome 13 = .ok (.invokevirtual 26, 3) := by decide +kernel
theorem dX6_isHome_16 : decode cX6_isHome 16 = .ok (.istore 4, 2) := by decide +kernel
theorem dX6_isHome_18 : decode cX6_isHome 18 = .ok (.iload 4, 2) := by decide +kernel
theorem dX6_isHome_20 : decode cX6_isHome 20 = .ok (.ifCond .lt 9, 3) := by decide +kernel
theorem dX6_isHome_23 : decode cX6_isHome 23 = .ok (.iload 4, 2) := by decide +kernel
theorem dX6_isHome_25 : decode cX6_isHome 25 = .ok (.iconst 3, 1) := by decide +kernel
theorem dX6_isHome_26 : decode cX6_isHome 26 = .ok (.if_icmp .le 5, 3) := by decide +kernel
theorem dX6_isHome_29 : decode cX6_isHome 29 = .ok (.iconst 0, 1) := by decide +kernel
theorem dX6_isHome_30 : decode cX6_isHome 30 = .ok (.ireturn, 1) := by decide +kernel
theorem dX6_isHome_31 : decode cX6_isHome 31 = .ok (.iload_n 2, 1) := by decide +kernel
theorem dX6_isHome_32 : decode cX6_isHome 32 = .ok (.iload 4, 2) := by decide +kernel
theorem dX6_isHome_34 : decode cX6_isHome 34 = .ok (.iadd, 1) := by decide +kernel
theorem dX6_isHome_35 : decode cX6_isHome 35 = .ok (.istore_n 2, 1) := by decide +kernel
theorem dX6_isHome_36 : decode cX6_isHome 36 = .ok (.iinc 3 1, 3) := by decide +kernel
theorem dX6_isHome_39 : decode cX6_isHome 39 = .ok (.goto (-35), 3) := by decide +kernel
theorem dX6_isHome_42 : decode cX6_isHome 42 = .ok (.iload_n 2, 1) := by decide +kernel
theorem dX6_isHome_43 : decode cX6_isHome 43 = .ok (.iconst 3, 1) := by decide +kernel
theorem dX6_isHome_44 : decode cX6_isHome 44 = .ok (.if_icmp .gt 7, 3) := by decide +kernel
theorem dX6_isHome_47 : decode cX6_isHome 47 = .ok (.iconst 1, 1) := by decide +kernel
theorem dX6_isHome_48 : decode cX6_isHome 48 = .ok (.goto 4, 3) := by decide +kernel
theorem dX6_isHome_51 : decode cX6_isHome 51 = .ok (.iconst 0, 1) := by decide +kernel
theorem dX6_isHome_52 : decode cX6_isHome 52 = .ok (.ireturn, 1) := by decide +kernel
theorem dX6_cell_0 : decode cX6_cell 0 = .ok (.iload_n 1, 1) := by decide +kernel
theorem dX6_cell_1 : decode cX6_cell 1 = .ok (.ifCond .lt 9, 3) := by decide +kernel
theorem dX6_cell_4 : decode cX6_cell 4 = .ok (.iload_n 1, 1) := by decide +kernel
theorem dX6_cell_5 : decode cX6_cell 5 = .ok (.bipush 48, 2) := by decide +kernel
theorem dX6_cell_7 : decode cX6_cell 7 = .ok (.if_icmp .lt 7, 3) := by decide +kernel
theorem dX6_cell_10 : decode cX6_cell 10 = .ok (.iconst 0, 1) := by decide +kernel
theorem dX6_cell_11 : decode cX6_cell 11 = .ok (.goto 9, 3) := by decide +kernel
theorem dX6_cell_14 : decode cX6_cell 14 = .ok (.aload_n 0, 1) := by decide +kernel
theorem dX6_cell_15 : decode cX6_cell 15 = .ok (.getfield 11, 3) := by decide +kernel
theorem dX6_cell_18 : decode cX6_cell 18 = .ok (.iload_n 1, 1) := by decide +kernel
theorem dX6_cell_19 : decode cX6_cell 19 = .ok (.iaload, 1) := by decide +kernel
theorem dX6_cell_20 : decode cX6_cell 20 = .ok (.ireturn, 1) := by decide +kernel
theorem dX6_put_0 : decode cX6_put 0 = .ok (.iload_n 1, 1) := by decide +kernel
theorem dX6_put_1 : decode cX6_put 1 = .ok (.ifCond .lt 9, 3) := by decide +kernel
theorem dX6_put_4 : decode cX6_put 4 = .ok (.iload_n 1, 1) := by decide +kernel
theorem dX6_put_5 : decode cX6_put 5 = .ok (.bipush 48, 2) := by decide +kernel
theorem dX6_put_7 : decode cX6_put 7 = .ok (.if_icmp .lt 4, 3) := by decide +kernel
theorem dX6_put_10 : decode cX6_put 10 = .ok (.return_, 1) := by decide +kernel
theorem dX6_put_11 : decode cX6_put 11 = .ok (.aload_n 0, 1) := by decide +kernel
theorem dX6_put_12 : decode cX6_put 12 = .ok (.getfield 11, 3) := by decide +kernel
theorem dX6_put_15 : decode cX6_put 15 = .ok (.iload_n 1, 1) := by decide +kernel
theorem dX6_put_16 : decode cX6_put 16 = .ok (.aload_n 0, 1) := by decide +kernel
theorem dX6_put_17 : decode cX6_put 17 = .ok (.getfield 15, 3) := by decide +kernel
theorem dX6_put_20 : decode cX6_put 20 = .ok (.ifCond .ne 8, 3) := by decide +kernel
theorem dX6_put_23 : decode cX6_put 23 = .ok (.iload_n 2, 1) := by decide +kernel
theorem dX6_put_24 : decode cX6_put 24 = .ok (.i2b, 1) := by decide +kernel
theorem dX6_put_25 : decode cX6_put 25 = .ok (.goto 17, 3) := by decide +kernel
theorem dX6_put_28 : decode cX6_put 28 = .ok (.aload_n 0, 1) := by decide +kernel
theorem dX6_put_29 : decode cX6_put 29 = .ok (.getfield 15, 3) := by decide +kernel
theorem dX6_put_32 : decode cX6_put 32 = .ok (.iconst 1, 1) := by decide +kernel
theorem dX6_put_33 : decode cX6_put 33 = .ok (.if_icmp .ne 8, 3) := by decide +kernel
theorem dX6_put_36 : decode cX6_put 36 = .ok (.iload_n 2, 1) := by decide +kernel
theorem dX6_put_37 : decode cX6_put 37 = .ok (.i2s, 1) := by decide +kernel
theorem dX6_put_38 : decode cX6_put 38 = .ok (.goto 4, 3) := by decide +kernel
theorem dX6_put_41 : decode cX6_put 41 = .ok (.iload_n 2, 1) := by decide +kernel
theorem dX6_put_42 : decode cX6_put 42 = .ok (.iastore, 1) := by decide +kernel
theorem dX6_put_43 : decode cX6_put 43 = .ok (.return_, 1) := by decide +kernel
theorem dX7_init_0 : decode cX7_init 0 = .ok (.aload_n 0, 1) := by decide +kernel
theorem dX7_init_1 : decode cX7_init 1 = .ok (.invokespecial 1, 3) := by decide +kernel
theorem dX7_init_4 : decode cX7_init 4 = .ok (.aload_n 0, 1) := by decide +kernel
theorem dX7_init_5 : decode cX7_init 5 = .ok (.sipush 200, 3) := by decide +kernel
theorem dX7_init_8 : decode cX7_init 8 = .ok (.newarray .byte, 2) := by decide +kernel
theorem dX7_init_10 : decode cX7_init 10 = .ok (.putfield 9, 3) := by decide +kernel
theorem dX7_init_13 : decode cX7_init 13 = .ok (.return_, 1) := by decide +kernel
theorem dX7_put_0 : decode cX7_put 0 = .ok (.aload_n 0, 1) := by decide +kernel
theorem dX7_put_1 : decode cX7_put 1 = .ok (.getfield 13, 3) := by decide +kernel
theorem dX7_put_4 : decode cX7_put 4 = .ok (.bipush 8, 2) := by decide +kernel
theorem dX7_put_6 : decode cX7_put 6 = .ok (.iadd, 1) := by decide +kernel
theorem dX7_put_7 : decode cX7_put 7 = .ok (.sipush 200, 3) := by decide +kernel
theorem dX7_put_10 : decode cX7_put 10 = .ok (.if_icmp .le 5, 3) := by decide +kernel
theorem dX7_put_13 : decode cX7_put 13 = .ok (.iconst 0, 1) := by decide +kernel
theorem dX7_put_14 : decode cX7_put 14 = .ok (.ireturn, 1) := by decide +kernel
theorem dX7_put_15 : decode cX7_put 15 = .ok (.iconst 0, 1) := by decide +kernel
theorem dX7_put_16 : decode cX7_put 16 = .ok (.istore_n 3, 1) := by decide +kernel
theorem dX7_put_17 : decode cX7_put 17 = .ok (.iload_n 3, 1) := by decide +kernel
theorem dX7_put_18 : decode cX7_put 18 = .ok (.bipush 8, 2) := by decide +kernel
theorem dX7_put_20 : decode cX7_put 20 = .ok (.if_icmp .ge 31, 3) := by decide +kernel
theorem dX7_put_23 : decode cX7_put 23 = .ok (.aload_n 0, 1) := by decide +kernel
theorem dX7_put_24 : decode cX7_put 24 = .ok (.getfield 9, 3) := by decide +kernel
theorem dX7_put_27 : decode cX7_put 27 = .ok (.aload_n 0, 1) := by decide +kernel
theorem dX7_put_28 : decode cX7_put 28 = .ok (.getfield 13, 3) := by decide +kernel
theorem dX7_put_31 : decode cX7_put 31 = .ok (.iload_n 3, 1) := by decide +kernel
theorem dX7_put_32 : decode cX7_put 32 = .ok (.iadd, 1) := by decide +kernel
theorem dX7_put_33 : decode cX7_put 33 = .ok (.lload_n 1, 1) := by decide +kernel
theorem dX7_put_34 : decode cX7_put 34 = .ok (.bipush 56, 2) := by decide +kernel
theorem dX7_put_36 : decode cX7_put 36 = .ok (.bipush 8, 2) := by decide +kernel
theorem dX7_put_38 : decode cX7_put 38 = .ok (.iload_n 3, 1) := by decide +kernel
theorem dX7_put_39 : decode cX7_put 39 = .ok (.imul, 1) := by decide +kernel
theorem dX7_put_40 : decode cX7_put 40 = .ok (.isub, 1) := by decide +kernel
theorem dX7_put_41 : decode cX7_put 41 = .ok (.lshr, 1) := by decide +kernel
theorem dX7_put_42 : decode cX7_put 42 = .ok (.l2i, 1) := by decide +kernel
theorem dX7_put_43 : decode cX7_put 43 = .ok (.i2b, 1) := by decide +kernel
theorem dX7_put_44 : decode cX7_put 44 = .ok (.bastore, 1) := by decide +kernel
theorem dX7_put_45 : decode cX7_put 45 = .ok (.iinc 3 1, 3) := by decide +kernel
theorem dX7_put_48 : decode cX7_put 48 = .ok (.goto (-31), 3) := by decide +kernel
theorem dX7_put_51 : decode cX7_put 51 = .ok (.aload_n 0, 1) := by decide +kernel
theorem dX7_put_52 : decode cX7_put 52 = .ok (.dup, 1) := by decide +kernel
theorem dX7_put_53 : decode cX7_put 53 = .ok (.getfield 13, 3) := by decide +kernel
theorem dX7_put_56 : decode cX7_put 56 = .ok (.bipush 8, 2) := by decide +kernel
theorem dX7_put_58 : decode cX7_put 58 = .ok (.iadd, 1) := by decide +kernel
theorem dX7_put_59 : decode cX7_put 59 = .ok (.putfield 13, 3) := by decide +kernel
theorem dX7_put_62 : decode cX7_put 62 = .ok (.iconst 1, 1) := by decide +kernel
theorem dX7_put_63 : decode cX7_put 63 = .ok (.ireturn, 1) := by decide +kernel
theorem dX7_rewind_0 : decode cX7_rewind 0 = .ok (.aload_n 0, 1) := by decide +kernel
theorem dX7_rewind_1 : decode cX7_rewind 1 = .ok (.iconst 0, 1) := by decide +kernel
theorem dX7_rewind_2 : decode cX7_rewind 2 = .ok (.putfield 17, 3) := by decide +kernel
theorem dX7_rewind_5 : decode cX7_rewind 5 = .ok (.aload_n 0, 1) := by decide +kernel
theorem dX7_rewind_6 : decode cX7_rewind 6 = .ok (.iconst 0, 1) := by decide +kernel
theorem dX7_rewind_7 : decode cX7_rewind 7 = .ok (.putfield 20, 3) := by decide +kernel
theorem dX7_rewind_10 : decode cX7_rewind 10 = .ok (.aload_n 0, 1) := by decide +kernel
theorem dX7_rewind_11 : decode cX7_rewind 11 = .ok (.iconst 0, 1) := by decide +kernel
theorem dX7_rewind_12 : decode cX7_rewind 12 = .ok (.putfield 23, 3) := by decide +kernel
theorem dX7_rewind_15 : decode cX7_rewind 15 = .ok (.return_, 1) := by decide +kernel
set_option maxRecDepth 20000 in
theorem ggX7_next_X7_skips : GoodIn wsX7_next wsX7_skips := goodIn_r _ [10, 1, 2, 3, 4, 11, 12, 13, 14, 15] (by decide +kernel) (by decide +kernel)
set_option maxRecDepth 20000 in
theorem gX7_next_X7_skips : GoodIn wsX7_next (wsV RX7 26 RX7 yX7_skips wsX7_skips) := goodIn_app (goodIn_of _ (by decide +kernel)) ggX7_next_X7_skips
theorem dX7_next_0 : decode cX7_next 0 = .ok (.aload_n 0, 1) := by decide +kernel
theorem dX7_next_1 : decode cX7_next 1 = .ok (.getfield 17, 3) := by decide +kernel
theorem dX7_next_4 : decode cX7_next 4 = .ok (.aload_n 0, 1) := by decide +kernel
theorem dX7_next_5 : decode cX7_next 5 = .ok (.getfield 13, 3) := by decide +kernel
theorem dX7_next_8 : decode cX7_next 8 = .ok (.if_icmp .ge 30, 3) := by decide +kernel
theorem dX7_next_11 : decode cX7_next 11 = .ok (.aload_n 0, 1) := by decide +kernel
theorem dX7_next_12 : decode cX7_next 12 = .ok (.getfield 9, 3) := by decide +kernel
theorem dX7_next_15 : decode cX7_next 15 = .ok (.aload_n 0, 1) := by decide +kernel
theorem dX7_next_16 : decode cX7_next 16 = .ok (.getfield 17, 3) := by decide +kernel
theorem dX7_next_19 : decode cX7_next 19 = .ok (.baload, 1) := by decide +kernel
theorem dX7_next_20 : decode cX7_next 20 = .ok (.bipush 32, 2) := by decide +kernel
theorem dX7_next_22 : decode cX7_next 22 = .ok (.if_icmp .ne 16, 3) := by decide +kernel
theorem dX7_next_25 : decode cX7_next 25 = .ok (.aload_n 0, 1) := by decide +kernel
theorem dX7_next_26 : decode cX7_next 26 = .ok (.dup, 1) := by decide +kernel
theorem dX7_next_27 : decode cX7_next 27 = .ok (.getfield 17, 3) := by decide +kernel
theorem dX7_next_30 : decode cX7_next 30 = .ok (.iconst 1, 1) := by decide +kernel
theorem dX7_next_31 : decode cX7_next 31 = .ok (.iadd, 1) := by decide +kernel
theorem dX7_next_32 : decode cX7_next 32 = .ok (.putfield 17, 3) := by decide +kernel
theorem dX7_next_35 : decode cX7_next 35 = .ok (.goto (-35), 3) := by decide +kernel
theorem dX7_next_38 : decode cX7_next 38 = .ok (.aload_n 0, 1) := by decide +kernel
theorem dX7_next_39 : decode cX7_next 39 = .ok (.aload_n 0, 1) := by decide +kernel
theorem dX7_next_40 : decode cX7_next 40 = .ok (.getfield 17, 3) := by decide +kernel
theorem dX7_next_43 : decode cX7_next 43 = .ok (.putfield 20, 3) := by decide +kernel
theorem dX7_next_46 : decode cX7_next 46 = .ok (.aload_n 0, 1) := by decide +kernel
theorem dX7_next_47 : decode cX7_next 47 = .ok (.getfield 17, 3) := by decide +kernel
theorem dX7_next_50 : decode cX7_next 50 = .ok (.aload_n 0, 1) := by decide +kernel
theorem dX7_next_51 : decode cX7_next 51 = .ok (.getfield 13, 3) := by decide +kernel
theorem dX7_next_54 : decode cX7_next 54 = .ok (.if_icmp .lt 11, 3) := by decide +kernel
theorem dX7_next_57 : decode cX7_next 57 = .ok (.aload_n 0, 1) := by decide +kernel
theorem dX7_next_58 : decode cX7_next 58 = .ok (.iconst 1, 1) := by decide +kernel
theorem dX7_next_59 : decode cX7_next 59 = .ok (.putfield 23, 3) := by decide +kernel
theorem dX7_next_62 : decode cX7_next 62 = .ok (.goto 95, 3) := by decide +kernel
theorem dX7_next_65 : decode cX7_next 65 = .ok (.aload_n 0, 1) := by decide +kernel
theorem dX7_next_66 : decode cX7_next 66 = .ok (.bipush 97, 2) := by decide +kernel
theorem dX7_next_68 : decode cX7_next 68 = .ok (.bipush 122, 2) := by decide +kernel
theorem dX7_next_70 : decode cX7_next 70 = .ok (.invokevirtual 26, 3) := by decide +kernel
theorem dX7_next_73 : decode cX7_next 73 = .ok (.ifCond .eq 11, 3) := by decide +kernel
theorem dX7_next_76 : decode cX7_next 76 = .ok (.aload_n 0, 1) := by decide +kernel
theorem dX7_next_77 : decode cX7_next 77 = .ok (.iconst 2, 1) := by decide +kernel
theorem dX7_next_78 : decode cX7_next 78 = .ok (.putfield 23, 3) := by decide +kernel
theorem dX7_next_81 : decode cX7_next 81 = .ok (.goto 76, 3) := by decide +kernel
theorem dX7_next_84 : decode cX7_next 84 = .ok (.aload_n 0, 1) := by decide +kernel
theorem dX7_next_85 : decode cX7_next 85 = .ok (.bipush 48, 2) := by decide +kernel
theorem dX7_next_87 : decode cX7_next 87 = .ok (.bipush 57, 2) := by decide +kernel
theorem dX7_next_89 : decode cX7_next 89 = .ok (.invokevirtual 26, 3) := by decide +kernel
theorem dX7_next_92 : decode cX7_next 92 = .ok (.ifCond .eq 28, 3) := by decide +kernel
theorem dX7_next_95 : decode cX7_next 95 = .ok (.aload_n 0, 1) := by decide +kernel
theorem dX7_next_96 : decode cX7_next 96 = .ok (.aload_n 0, 1) := by decide +kernel
theorem dX7_next_97 : decode cX7_next 97 = .ok (.getfield 17, 3) := by decide +kernel
theorem dX7_next_100 : decode cX7_next 100 = .ok (.aload_n 0, 1) := by decide +kernel
theorem dX7_next_101 : decode cX7_next 101 = .ok (.getfield 20, 3) := by decide +kernel
theorem dX7_next_104 : decode cX7_next 104 = .ok (.isub, 1) := by decide +kernel
theorem dX7_next_105 : decode cX7_next 105 = .ok (.iconst 3, 1) := by decide +kernel
theorem dX7_next_106 : decode cX7_next 106 = .ok (.if_icmp .gt 7, 3) := by decide +kernel
theorem dX7_next_109 : decode cX7_next 109 = .ok (.iconst 3, 1) := by decide +kernel
theorem dX7_next_110 : decode cX7_next 110 = .ok (.goto 4, 3) := by decide +kernel
theorem dX7_next_113 : decode cX7_next 113 = .ok (.iconst 0, 1) := by decide +kernel
theorem dX7_next_114 : decode cX7_next 114 = .ok (.putfield 23, 3) := by decide +kernel
theorem dX7_next_117 : decode cX7_next 117 = .ok (.goto 40, 3) := by decide +kernel
theorem dX7_next_120 : decode cX7_next 120 = .ok (.aload_n 0, 1) := by decide +kernel
theorem dX7_next_121 : decode cX7_next 121 = .ok (.getfield 9, 3) := by decide +kernel
theorem dX7_next_124 : decode cX7_next 124 = .ok (.aload_n 0, 1) := by decide +kernel
theorem dX7_next_125 : decode cX7_next 125 = .ok (.getfield 17, 3) := by decide +kernel
theorem dX7_next_128 : decode cX7_next 128 = .ok (.baload, 1) := by decide +kernel
theorem dX7_next_129 : decode cX7_next 129 = .ok (.bipush 59, 2) := by decide +kernel
theorem dX7_next_131 : decode cX7_next 131 = .ok (.if_icmp .ne 21, 3) := by decide +kernel
theorem dX7_next_134 : decode cX7_next 134 = .ok (.aload_n 0, 1) := by decide +kernel
theorem dX7_next_135 : decode cX7_next 135 = .ok (.dup, 1) := by decide +kernel
theorem dX7_next_136 : decode cX7_next 136 = .ok (.getfield 17, 3) := by decide +kernel
theorem dX7_next_139 : decode cX7_next 139 = .ok (.iconst 1, 1) := by decide +kernel
theorem dX7_next_140 : decode cX7_next 140 = .ok (.iadd, 1) := by decide +kernel
theorem dX7_next_141 : decode cX7_next 141 = .ok (.putfield 17, 3) := by decide +kernel
theorem dX7_next_144 : decode cX7_next 144 = .ok (.aload_n 0, 1) := by decide +kernel
theorem dX7_next_145 : decode cX7_next 145 = .ok (.iconst 4, 1) := by decide +kernel
theorem dX7_next_146 : decode cX7_next 146 = .ok (.putfield 23, 3) := by decide +kernel
theorem dX7_next_149 : decode cX7_next 149 = .ok (.goto 8, 3) := by decide +kernel
theorem dX7_next_152 : decode cX7_next 152 = .ok (.aload_n 0, 1) := by decide +kernel
theorem dX7_next_153 : decode cX7_next 153 = .ok (.iconst 0, 1) := by decide +kernel
theorem dX7_next_154 : decode cX7_next 154 = .ok (.putfield 23, 3) := by decide +kernel
theorem dX7_next_157 : decode cX7_next 157 = .ok (.return_, 1) := by decide +kernel
theorem dX7_number_0 : decode cX7_number 0 = .ok (.iconst 0, 1) := by decide +kernel
theorem dX7_number_1 : decode cX7_number 1 = .ok (.istore_n 1, 1) := by decide +kernel
theorem dX7_number_2 : decode cX7_number 2 = .ok (.aload_n 0, 1) := by decide +kernel
theorem dX7_number_3 : decode cX7_number 3 = .ok (.getfield 20, 3) := by decide +kernel
theorem dX7_number_6 : decode cX7_number 6 = .ok (.istore_n 2, 1) := by decide +kernel
theorem dX7_number_7 : decode cX7_number 7 = .ok (.iload_n 2, 1) := by decide +kernel
theorem dX7_number_8 : decode cX7_number 8 = .ok (.aload_n 0, 1) := by decide +kernel
theorem dX7_number_9 : decode cX7_number 9 = .ok (.getfield 17, 3) := by decide +kernel
theorem dX7_number_12 : decode cX7_number 12 = .ok (.if_icmp .ge 24, 3) := by decide +kernel
theorem dX7_number_15 : decode cX7_number 15 = .ok (.bipush 10, 2) := by decide +kernel
theorem dX7_number_17 : decode cX7_number 17 = .ok (.iload_n 1, 1) := by decide +kernel
theorem dX7_number_18 : decode cX7_number 18 = .ok (.imul, 1) := by decide +kernel
theorem dX7_number_19 : decode cX7_number 19 = .ok (.aload_n 0, 1) := by decide +kernel
theorem dX7_number_20 : decode cX7_number 20 = .ok (.getfield 9, 3) := by decide +kernel
theorem dX7_number_23 : decode cX7_number 23 = .ok (.iload_n 2, 1) := by decide +kernel
theorem dX7_number_24 : decode cX7_number 24 = .ok (.baload, 1) := by decide +kernel
theorem dX7_number_25 : decode cX7_number 25 = .ok (.iadd, 1) := by decide +kernel
theorem dX7_number_26 : decode cX7_number 26 = .ok (.bipush 48, 2) := by decide +kernel
theorem dX7_number_28 : decode cX7_number 28 = .ok (.isub, 1) := by decide +kernel
theorem dX7_number_29 : decode cX7_number 29 = .ok (.istore_n 1, 1) := by decide +kernel
theorem dX7_number_30 : decode cX7_number 30 = .ok (.iinc 2 1, 3) := by decide +kernel
theorem dX7_number_33 : decode cX7_number 33 = .ok (.goto (-26), 3) := by decide +kernel
theorem dX7_number_36 : decode cX7_number 36 = .ok (.iload_n 1, 1) := by decide +kernel
theorem dX7_number_37 : decode cX7_number 37 = .ok (.ireturn, 1) := by decide +kernel
theorem dX7_letter_0 : decode cX7_letter 0 = .ok (.aload_n 0, 1) := by decide +kernel
theorem dX7_letter_1 : decode cX7_letter 1 = .ok (.getfield 23, 3) := by decide +kernel
theorem dX7_letter_4 : decode cX7_letter 4 = .ok (.iconst 2, 1) := by decide +kernel
theorem dX7_letter_5 : decode cX7_letter 5 = .ok (.if_icmp .ne 31, 3) := by decide +kernel
theorem dX7_letter_8 : decode cX7_letter 8 = .ok (.aload_n 0, 1) := by decide +kernel
theorem dX7_letter_9 : decode cX7_letter 9 = .ok (.getfield 17, 3) := by decide +kernel
theorem dX7_letter_12 : decode cX7_letter 12 = .ok (.aload_n 0, 1) := by decide +kernel
theorem dX7_letter_13 : decode cX7_letter 13 = .ok (.getfield 20, 3) := by decide +kernel
theorem dX7_letter_16 : decode cX7_letter 16 = .ok (.isub, 1) := by decide +kernel
theorem dX7_letter_17 : decode cX7_letter 17 = .ok (.iconst 1, 1) := by decide +kernel
theorem dX7_letter_18 : decode cX7_letter 18 = .ok (.if_icmp .ne 18, 3) := by decide +kernel
theorem dX7_letter_21 : decode cX7_letter 21 = .ok (.aload_n 0, 1) := by decide +kernel
theorem dX7_letter_22 : decode cX7_letter 22 = .ok (.getfield 9, 3) := by decide +kernel
theorem dX7_letter_25 : decode cX7_letter 25 = .ok (.aload_n 0, 1) := by decide +kernel
theorem dX7_letter_26 : decode cX7_letter 26 = .ok (.getfield 20, 3) := by decide +kernel
theorem dX7_letter_29 : decode cX7_letter 29 = .ok (.baload, 1) := by decide +kernel
theorem dX7_letter_30 : decode cX7_letter 30 = .ok (.bipush 97, 2) := by decide +kernel
theorem dX7_letter_32 : decode cX7_letter 32 = .ok (.isub, 1) := by decide +kernel
theorem dX7_letter_33 : decode cX7_letter 33 = .ok (.goto 4, 3) := by decide +kernel
theorem dX7_letter_36 : decode cX7_letter 36 = .ok (.iconst (-1), 1) := by decide +kernel
theorem dX7_letter_37 : decode cX7_letter 37 = .ok (.ireturn, 1) := by decide +kernel
set_option maxRecDepth 20000 in
theorem ggX7_isWord_J0_length_8abf5 : GoodIn wsX7_isWord wsJ0_length_8abf5 := goodIn_r _ [9, 10, 11, 12, 13, 8, 14, 15, 16] (by decide +kernel) (by decide +kernel)
set_option maxRecDepth 20000 in
theorem gX7_isWord_J0_length_8abf5 : GoodIn wsX7_isWord (wsV RX7 30 RJ0 yJ0_length_8abf5 wsJ0_length_8abf5) := goodIn_app (goodIn_of _ (by decide +kernel)) ggX7_isWord_J0_length_8abf5
set_option maxRecDepth 20000 in
theorem ggX7_isWord_J0_charAt_5068e : GoodIn wsX7_isWord wsJ0_charAt_5068e := goodIn_r _ [20, 10, 21, 22, 23, 8, 24, 15, 16, 25, 26, 27, 28, 29, 30, 31, 32, 33, 34, 35, 36, 37, 38, 39, 40, 41, 42, 43, 44, 45, 46, 47, 48, 49, 50, 51, 52, 53] (by decide +kernel) (by decide +kernel)
set_option maxRecDepth 20000 in
theorem gX7_isWord_J0_charAt_5068e : GoodIn wsX7_isWord (wsV RX7 36 RJ0 yJ0_charAt_5068e wsJ0_charAt_5068e) := goodIn_app (goodIn_of _ (by decide +kernel)) ggX7_isWord_J0_charAt_5068e
theorem dX7_isWord_0 : decode cX7_isWord 0 = .ok (.aload_n 0, 1) := by decide +kernel
theorem dX7_isWord_1 : decode cX7_isWord 1 = .ok (.getfield 17, 3) := by decide +kernel
theorem dX7_isWord_4 : decode cX7_isWord 4 = .ok (.aload_n 0, 1) := by decide +kernel
theorem dX7_isWord_5 : decode cX7_isWord 5 = .ok (.getfield 20, 3) := by decide +kernel
theorem dX7_isWord_8 : decode cX7_isWord 8 = .ok (.isub, 1) := by decide +kernel
theorem dX7_isWord_9 : decode cX7_isWord 9 = .ok (.istore_n 3, 1) := by decide +kernel
theorem dX7_isWord_10 : decode cX7_isWord 10 = .ok (.aload_n 0, 1) := by decide +kernel
theorem dX7_isWord_11 : decode cX7_isWord 11 = .ok (.getfield 23, 3) := by decide +kernel
theorem dX7_isWord_14 : decode cX7_isWord 14 = .ok (.iconst 2, 1) := by decide +kernel
theorem dX7_isWord_15 : decode cX7_isWord 15 = .ok (.if_icmp .ne 25, 3) := by decide +kernel
theorem dX7_isWord_18 : decode cX7_isWord 18 = .ok (.iload_n 2, 1) := by decide +kernel
theorem dX7_isWord_19 : decode cX7_isWord 19 = .ok (.iload_n 3, 1) := by decide +kernel
theorem dX7_isWord_20 : decode cX7_isWord 20 = .ok (.iadd, 1) := by decide +kernel
theorem dX7_isWord_21 : decode cX7_isWord 21 = .ok (.aload_n 1, 1) := by decide +kernel
theorem dX7_isWord_22 : decode cX7_isWord 22 = .ok (.invokevirtual 30, 3) := by decide +kernel
theorem dX7_isWord_25 : decode cX7_isWord 25 = .ok (.if_icmp .ge 15, 3) := by decide +kernel
theorem dX7_isWord_28 : decode cX7_isWord 28 = .ok (.aload_n 1, 1) := by decide +kernel
theorem dX7_isWord_29 : decode cX7_isWord 29 = .ok (.iload_n 2, 1) := by decide +kernel
theorem dX7_isWord_30 : decode cX7_isWord 30 = .ok (.iload_n 3, 1) := by decide +kernel
theorem dX7_isWord_31 : decode cX7_isWord 31 = .ok (.iadd, 1) := by decide +kernel
theorem dX7_isWord_32 : decode cX7_isWord 32 = .ok (.invokevirtual 36, 3) := by decide +kernel
theorem dX7_isWord_35 : decode cX7_isWord 35 = .ok (.bipush 32, 2) := by decide +kernel
theorem dX7_isWord_37 : decode cX7_isWord 37 = .ok (.if_icmp .eq 5, 3) := by decide +kernel
theorem dX7_isWord_40 : decode cX7_isWord 40 = .ok (.iconst 0, 1) := by decide +kernel
theorem dX7_isWord_41 : decode cX7_isWord 41 = .ok (.ireturn, 1) := by decide +kernel
theorem dX7_isWord_42 : decode cX7_isWord 42 = .ok (.iconst 0, 1) := by decide +kernel
theorem dX7_isWord_43 : decode cX7_isWord 43 = .ok (.istore 4, 2) := by decide +kernel
theorem dX7_isWord_45 : decode cX7_isWord 45 = .ok (.iload 4, 2) := by decide +kernel
theorem dX7_isWord_47 : decode cX7_isWord 47 = .ok (.iload_n 3, 1) := by decide +kernel
theorem dX7_isWord_48 : decode cX7_isWord 48 = .ok (.if_icmp .ge 34, 3) := by decide +kernel
theorem dX7_isWord_51 : decode cX7_isWord 51 = .ok (.aload_n 1, 1) := by decide +kernel
theorem dX7_isWord_52 : decode cX7_isWord 52 = .ok (.iload_n 2, 1) := by decide +kernel
theorem dX7_isWord_53 : decode cX7_isWord 53 = .ok (.iload 4, 2) := by decide +kernel
theorem dX7_isWord_55 : decode cX7_isWord 55 = .ok (.iadd, 1) := by decide +kernel
theorem dX7_isWord_56 : decode cX7_isWord 56 = .ok (.invokevirtual 36, 3) := by decide +kernel
theorem dX7_isWord_59 : decode cX7_isWord 59 = .ok (.aload_n 0, 1) := by decide +kernel
theorem dX7_isWord_60 : decode cX7_isWord 60 = .ok (.getfield 9, 3) := by decide +kernel
theorem dX7_isWord_63 : decode cX7_isWord 63 = .ok (.aload_n 0, 1) := by decide +kernel
theorem dX7_isWord_64 : decode cX7_isWord 64 = .ok (.getfield 20, 3) := by decide +kernel
theorem dX7_isWord_67 : decode cX7_isWord 67 = .ok (.iload 4, 2) := by decide +kernel
theorem dX7_isWord_69 : decode cX7_isWord 69 = .ok (.iadd, 1) := by decide +kernel
theorem dX7_isWord_70 : decode cX7_isWord 70 = .ok (.baload, 1) := by decide +kernel
theorem dX7_isWord_71 : decode cX7_isWord 71 = .ok (.if_icmp .eq 5, 3) := by decide +kernel
theorem dX7_isWord_74 : decode cX7_isWord 74 = .ok (.iconst 0, 1) := by decide +kernel
theorem dX7_isWord_75 : decode cX7_isWord 75 = .ok (.ireturn, 1) := by decide +kernel
theorem dX7_isWord_76 : decode cX7_isWord 76 = .ok (.iinc 4 1, 3) := by decide +kernel
theorem dX7_isWord_79 : decode cX7_isWord 79 = .ok (.goto (-34), 3) := by decide +kernel
theorem dX7_isWord_82 : decode cX7_isWord 82 = .ok (.iconst 1, 1) := by decide +kernel
theorem dX7_isWord_83 : decode cX7_isWord 83 = .ok (.ireturn, 1) := by decide +kernel
theorem dX7_skips_0 : decode cX7_skips 0 = .ok (.aload_n 0, 1) := by decide +kernel
theorem dX7_skips_1 : decode cX7_skips 1 = .ok (.getfield 17, 3) := by decide +kernel
theorem dX7_skips_4 : decode cX7_skips 4 = .ok (.aload_n 0, 1) := by decide +kernel
theorem dX7_skips_5 : decode cX7_skips 5 = .ok (.getfield 13, 3) := by decide +kernel
theorem dX7_skips_8 : decode cX7_skips 8 = .ok (.if_icmp .ge 42, 3) := by decide +kernel
theorem dX7_skips_11 : decode cX7_skips 11 = .ok (.aload_n 0, 1) := by decide +kernel
theorem dX7_skips_12 : decode cX7_skips 12 = .ok (.getfield 9, 3) := by decide +kernel
theorem dX7_skips_15 : decode cX7_skips 15 = .ok (.aload_n 0, 1) := by decide +kernel
theorem dX7_skips_16 : decode cX7_skips 16 = .ok (.getfield 17, 3) := by decide +kernel
theorem dX7_skips_19 : decode cX7_skips 19 = .ok (.baload, 1) := by decide +kernel
theorem dX7_skips_20 : decode cX7_skips 20 = .ok (.iload_n 1, 1) := by decide +kernel
theorem dX7_skips_21 : decode cX7_skips 21 = .ok (.if_icmp .lt 29, 3) := by decide +kernel
theorem dX7_skips_24 : decode cX7_skips 24 = .ok (.aload_n 0, 1) := by decide +kernel
theorem dX7_skips_25 : decode cX7_skips 25 = .ok (.getfield 9, 3) := by decide +kernel
theorem dX7_skips_28 : decode cX7_skips 28 = .ok (.aload_n 0, 1) := by decide +kernel
theorem dX7_skips_29 : decode cX7_skips 29 = .ok (.getfield 17, 3) := by decide +kernel
theorem dX7_skips_32 : decode cX7_skips 32 = .ok (.baload, 1) := by decide +kernel
theorem dX7_skips_33 : decode cX7_skips 33 = .ok (.iload_n 2, 1) := by decide +kernel
theorem dX7_skips_34 : decode cX7_skips 34 = .ok (.if_icmp .gt 16, 3) := by decide +kernel
theorem dX7_skips_37 : decode cX7_skips 37 = .ok (.aload_n 0, 1) := by decide +kernel
theorem dX7_skips_38 : decode cX7_skips 38 = .ok (.dup, 1) := by decide +kernel
theorem dX7_skips_39 : decode cX7_skips 39 = .ok (.getfield 17, 3) := by decide +kernel
theorem dX7_skips_42 : decode cX7_skips 42 = .ok (.iconst 1, 1) := by decide +kernel
theorem dX7_skips_43 : decode cX7_skips 43 = .ok (.iadd, 1) := by decide +kernel
theorem dX7_skips_44 : decode cX7_skips 44 = .ok (.putfield 17, 3) := by decide +kernel
theorem dX7_skips_47 : decode cX7_skips 47 = .ok (.goto (-47), 3) := by decide +kernel
theorem dX7_skips_50 : decode cX7_skips 50 = .ok (.aload_n 0, 1) := by decide +kernel
theorem dX7_skips_51 : decode cX7_skips 51 = .ok (.getfield 17, 3) := by decide +kernel
theorem dX7_skips_54 : decode cX7_skips 54 = .ok (.aload_n 0, 1) := by decide +kernel
theorem dX7_skips_55 : decode cX7_skips 55 = .ok (.getfield 20, 3) := by decide +kernel
theorem dX7_skips_58 : decode cX7_skips 58 = .ok (.if_icmp .le 7, 3) := by decide +kernel
theorem dX7_skips_61 : decode cX7_skips 61 = .ok (.iconst 1, 1) := by decide +kernel
theorem dX7_skips_62 : decode cX7_skips 62 = .ok (.goto 4, 3) := by decide +kernel
theorem dX7_skips_65 : decode cX7_skips 65 = .ok (.iconst 0, 1) := by decide +kernel
theorem dX7_skips_66 : decode cX7_skips 66 = .ok (.ireturn, 1) := by decide +kernel
set_option maxRecDepth 20000 in
theorem ggX8_init_X8_standAsUntold : GoodIn wsX8_init wsX8_standAsUntold := goodIn_r _ [11, 5, 6, 22, 23, 24, 25, 26, 27] (by decide +kernel) (by decide +kernel)
set_option maxRecDepth 20000 in
theorem gX8_init_X8_standAsUntold : GoodIn wsX8_init (wsV RX8 18 RX8 yX8_standAsUntold wsX8_standAsUntold) := goodIn_app (goodIn_of _ (by decide +kernel)) ggX8_init_X8_standAsUntold
set_option maxRecDepth 20000 in
theorem ggX8_init_X8_settle : GoodIn wsX8_init wsX8_settle := goodIn_r _ [15, 16, 17, 5, 6, 18, 19, 20, 21, 22, 23, 24, 25, 26, 27] (by decide +kernel) (by decide +kernel)
set_option maxRecDepth 20000 in
theorem gX8_init_X8_settle : GoodIn wsX8_init (wsV RX8 21 RX8 yX8_settle wsX8_settle) := goodIn_app (goodIn_of _ (by decide +kernel)) ggX8_init_X8_settle
theorem dX8_init_0 : decode cX8_init 0 = .ok (.aload_n 0, 1) := by decide +kernel
theorem dX8_init_1 : decode cX8_init 1 = .ok (.invokespecial 3, 3) := by decide +kernel
theorem dX8_init_4 : decode cX8_init 4 = .ok (.aload_n 0, 1) := by decide +kernel
theorem dX8_init_5 : decode cX8_init 5 = .ok (.bipush 12, 2) := by decide +kernel
theorem dX8_init_7 : decode cX8_init 7 = .ok (.newarray .int, 2) := by decide +kernel
theorem dX8_init_9 : decode cX8_init 9 = .ok (.putfield 9, 3) := by decide +kernel
theorem dX8_init_12 : decode cX8_init 12 = .ok (.aload_n 0, 1) := by decide +kernel
theorem dX8_init_13 : decode cX8_init 13 = .ok (.bipush 7, 2) := by decide +kernel
theorem dX8_init_15 : decode cX8_init 15 = .ok (.newarray .int, 2) := by decide +kernel
theorem dX8_init_17 : decode cX8_init 17 = .ok (.putfield 15, 3) := by decide +kernel
theorem dX8_init_20 : decode cX8_init 20 = .ok (.aload_n 0, 1) := by decide +kernel
theorem dX8_init_21 : decode cX8_init 21 = .ok (.invokevirtual 18, 3) := by decide +kernel
theorem dX8_init_24 : decode cX8_init 24 = .ok (.aload_n 0, 1) := by decide +kernel
theorem dX8_init_25 : decode cX8_init 25 = .ok (.invokevirtual 21, 3) := by decide +kernel
theorem dX8_init_28 : decode cX8_init 28 = .ok (.return_, 1) := by decide +kernel
theorem dX8_standAsUntold_0 : decode cX8_standAsUntold 0 = .ok (.iconst 0, 1) := by decide +kernel
theorem dX8_standAsUntold_1 : decode cX8_standAsUntold 1 = .ok (.istore_n 1, 1) := by decide +kernel
theorem dX8_standAsUntold_2 : decode cX8_standAsUntold 2 = .ok (.iload_n 1, 1) := by decide +kernel
theorem dX8_standAsUntold_3 : decode cX8_standAsUntold 3 = .ok (.iconst 4, 1) := by decide +kernel
theorem dX8_standAsUntold_4 : decode cX8_standAsUntold 4 = .ok (.if_icmp .ge 43, 3) := by decide +kernel
theorem dX8_standAsUntold_7 : decode cX8_standAsUntold 7 = .ok (.aload_n 0, 1) := by decide +kernel
theorem dX8_standAsUntold_8 : decode cX8_standAsUntold 8 = .ok (.getfield 9, 3) := by decide +kernel
theorem dX8_standAsUntold_11 : decode cX8_standAsUntold 11 = .ok (.iload_n 1, 1) := by decide +kernel
theorem dX8_standAsUntold_12 : decode cX8_standAsUntold 12 = .ok (.bipush 10, 2) := by decide +kernel
theorem dX8_standAsUntold_14 : decode cX8_standAsUntold 14 = .ok (.iastore, 1) := by decide +kernel
theorem dX8_standAsUntold_15 : decode cX8_standAsUntold 15 = .ok (.aload_n 0, 1) := by decide +kernel
theorem dX8_standAsUntold_16 : decode cX8_standAsUntold 16 = .ok (.getfield 9, 3) := by decide +kernel
theorem dX8_standAsUntold_19 : decode cX8_standAsUntold 19 = .ok (.iconst 4, 1) := by decide +kernel
theorem dX8_standAsUntold_20 : decode cX8_standAsUntold 20 = .ok (.iload_n 1, 1) := by decide +kernel
theorem dX8_standAsUntold_21 : decode cX8_standAsUntold 21 = .ok (.iadd, 1) := by decide +kernel
theorem dX8_standAsUntold_22 : decode cX8_standAsUntold 22 = .ok (.iconst 2, 1) := by decide +kernel
theorem dX8_standAsUntold_23 : decode cX8_standAsUntold 23 = .ok (.iastore, 1) := by decide +kernel
theorem dX8_standAsUntold_24 : decode cX8_standAsUntold 24 = .ok (.aload_n 0, 1) := by decide +kernel
theorem dX8_standAsUntold_25 : decode cX8_standAsUntold 25 = .ok (.getfield 9, 3) := by decide +kernel
theorem dX8_standAsUntold_28 : decode cX8_standAsUntold 28 = .ok (.bipush 8, 2) := by decide +kernel
theorem dX8_standAsUntold_30 : decode cX8_standAsUntold 30 = .ok (.iload_n 1, 1) := by decide +kernel
theorem dX8_standAsUntold_31 : decode cX8_standAsUntold 31 = .ok (.iadd, 1) := by decide +kernel
theorem dX8_standAsUntold_32 : decode cX8_standAsUntold 32 = .ok (.iconst 5, 1) := by decide +kernel
theorem dX8_standAsUntold_33 : decode cX8_standAsUntold 33 = .ok (.iastore, 1) := by decide +kernel
theorem dX8_standAsUntold_34 : decode cX8_standAsUntold 34 = .ok (.aload_n 0, 1) := by decide +kernel
theorem dX8_standAsUntold_35 : decode cX8_standAsUntold 35 = .ok (.getfield 15, 3) := by decide +kernel
theorem dX8_standAsUntold_38 : decode cX8_standAsUntold 38 = .ok (.iload_n 1, 1) := by decide +kernel
theorem dX8_standAsUntold_39 : decode cX8_standAsUntold 39 = .ok (.iconst 1, 1) := by decide +kernel
theorem dX8_standAsUntold_40 : decode cX8_standAsUntold 40 = .ok (.iastore, 1) := by decide +kernel
theorem dX8_standAsUntold_41 : decode cX8_standAsUntold 41 = .ok (.iinc 1 1, 3) := by decide +kernel
theorem dX8_standAsUntold_44 : decode cX8_standAsUntold 44 = .ok (.goto (-42), 3) := by decide +kernel
theorem dX8_standAsUntold_47 : decode cX8_standAsUntold 47 = .ok (.aload_n 0, 1) := by decide +kernel
theorem dX8_standAsUntold_48 : decode cX8_standAsUntold 48 = .ok (.getfield 15, 3) := by decide +kernel
theorem dX8_standAsUntold_51 : decode cX8_standAsUntold 51 = .ok (.iconst 4, 1) := by decide +kernel
theorem dX8_standAsUntold_52 : decode cX8_standAsUntold 52 = .ok (.iconst 0, 1) := by decide +kernel
theorem dX8_standAsUntold_53 : decode cX8_standAsUntold 53 = .ok (.iastore, 1) := by decide +kernel
theorem dX8_standAsUntold_54 : decode cX8_standAsUntold 54 = .ok (.aload_n 0, 1) := by decide +kernel
theorem dX8_standAsUntold_55 : decode cX8_standAsUntold 55 = .ok (.getfield 15, 3) := by decide +kernel
theorem dX8_standAsUntold_58 : decode cX8_standAsUntold 58 = .ok (.iconst 5, 1) := by decide +kernel
theorem dX8_standAsUntold_59 : decode cX8_standAsUntold 59 = .ok (.iconst 5, 1) := by decide +kernel
theorem dX8_standAsUntold_60 : decode cX8_standAsUntold 60 = .ok (.iastore, 1) := by decide +kernel
theorem dX8_standAsUntold_61 : decode cX8_standAsUntold 61 = .ok (.aload_n 0, 1) := by decide +kernel
theorem dX8_standAsUntold_62 : decode cX8_standAsUntold 62 = .ok (.getfield 15, 3) := by decide +kernel
theorem dX8_standAsUntold_65 : decode cX8_standAsUntold 65 = .ok (.bipush 6, 2) := by decide +kernel
theorem dX8_standAsUntold_67 : decode cX8_standAsUntold 67 = .ok (.bipush 10, 2) := by decide +kernel
theorem dX8_standAsUntold_69 : decode cX8_standAsUntold 69 = .ok (.iastore, 1) := by decide +kernel
theorem dX8_standAsUntold_70 : decode cX8_standAsUntold 70 = .ok (.return_, 1) := by decide +kernel
set_option maxRecDepth 20000 in
theorem ggX8_take_X8_settle : GoodIn wsX8_take wsX8_settle := goodIn_r _ [11, 12, 13, 1, 6, 14, 15, 16, 17, 18, 19, 20, 21, 22, 23] (by decide +kernel) (by decide +kernel)
set_option maxRecDepth 20000 in
theorem gX8_take_X8_settle : GoodIn wsX8_take (wsV RX8 21 RX8 yX8_settle wsX8_settle) := goodIn_app (goodIn_of _ (by decide +kernel)) ggX8_take_X8_settle
theorem dX8_take_0 : decode cX8_take 0 = .ok (.aload_n 1, 1) := by decide +kernel
theorem dX8_take_1 : decode cX8_take 1 = .ok (.getfield 9, 3) := by decide +kernel
theorem dX8_take_4 : decode cX8_take 4 = .ok (.iconst 0, 1) := by decide +kernel
theorem dX8_take_5 : decode cX8_take 5 = .ok (.aload_n 0, 1) := by decide +kernel
theorem dX8_take_6 : decode cX8_take 6 = .ok (.getfield 9, 3) := by decide +kernel
theorem dX8_take_9 : decode cX8_take 9 = .ok (.iconst 0, 1) := by decide +kernel
theorem dX8_take_10 : decode cX8_take 10 = .ok (.aload_n 0, 1) := by decide +kernel
theorem dX8_take_11 : decode cX8_take 11 = .ok (.getfield 9, 3) := by decide +kernel
theorem dX8_take_14 : decode cX8_take 14 = .ok (.arraylength, 1) := by decide +kernel
theorem dX8_take_15 : decode cX8_take 15 = .ok (.invokestatic 24, 3) := by decide +kernel
theorem dX8_take_18 : decode cX8_take 18 = .ok (.aload_n 1, 1) := by decide +kernel
theorem dX8_take_19 : decode cX8_take 19 = .ok (.getfield 15, 3) := by decide +kernel
theorem dX8_take_22 : decode cX8_take 22 = .ok (.iconst 0, 1) := by decide +kernel
theorem dX8_take_23 : decode cX8_take 23 = .ok (.aload_n 0, 1) := by decide +kernel
theorem dX8_take_24 : decode cX8_take 24 = .ok (.getfield 15, 3) := by decide +kernel
theorem dX8_take_27 : decode cX8_take 27 = .ok (.iconst 0, 1) := by decide +kernel
theorem dX8_take_28 : decode cX8_take 28 = .ok (.aload_n 0, 1) := by decide +kernel
theorem dX8_take_29 : decode cX8_take 29 = .ok (.getfield 15, 3) := by decide +kernel
theorem dX8_take_32 : decode cX8_take 32 = .ok (.arraylength, 1) := by decide +kernel
theorem dX8_take_33 : decode cX8_take 33 = .ok (.invokestatic 24, 3) := by decide +kernel
theorem dX8_take_36 : decode cX8_take 36 = .ok (.aload_n 0, 1) := by decide +kernel
theorem dX8_take_37 : decode cX8_take 37 = .ok (.invokevirtual 21, 3) := by decide +kernel
theorem dX8_take_40 : decode cX8_take 40 = .ok (.return_, 1) := by decide +kernel
theorem dX8_settle_0 : decode cX8_settle 0 = .ok (.aload_n 0, 1) := by decide +kernel
theorem dX8_settle_1 : decode cX8_settle 1 = .ok (.iconst 0, 1) := by decide +kernel
theorem dX8_settle_2 : decode cX8_settle 2 = .ok (.putfield 30, 3) := by decide +kernel
theorem dX8_settle_5 : decode cX8_settle 5 = .ok (.aload_n 0, 1) := by decide +kernel
theorem dX8_settle_6 : decode cX8_settle 6 = .ok (.iconst 0, 1) := by decide +kernel
theorem dX8_settle_7 : decode cX8_settle 7 = .ok (.putfield 34, 3) := by decide +kernel
theorem dX8_settle_10 : decode cX8_settle 10 = .ok (.iconst 0, 1) := by decide +kernel
theorem dX8_settle_11 : decode cX8_settle 11 = .ok (.istore_n 1, 1) := by decide +kernel
theorem dX8_settle_12 : decode cX8_settle 12 = .ok (.iload_n 1, 1) := by decide +kernel
theorem dX8_settle_13 : decode cX8_settle 13 = .ok (.iconst 4, 1) := by decide +kernel
theorem dX8_settle_14 : decode cX8_settle 14 = .ok (.if_icmp .ge 39, 3) := by decide +kernel
theorem dX8_settle_17 : decode cX8_settle 17 = .ok (.aload_n 0, 1) := by decide +kernel
theorem dX8_settle_18 : decode cX8_settle 18 = .ok (.dup, 1) := by decide +kernel
theorem dX8_settle_19 : decode cX8_settle 19 = .ok (.getfield 30, 3) := by decide +kernel
theorem dX8_settle_22 : decode cX8_settle 22 = .ok (.aload_n 0, 1) := by decide +kernel
theorem dX8_settle_23 : decode cX8_settle 23 = .ok (.getfield 9, 3) := by decide +kernel
theorem dX8_settle_26 : decode cX8_settle 26 = .ok (.iload_n 1, 1) := by decide +kernel
theorem dX8_settle_27 : decode cX8_settle 27 = .ok (.iaload, 1) := by decide +kernel
theorem dX8_settle_28 : decode cX8_settle 28 = .ok (.iadd, 1) := by decide +kernel
theorem dX8_settle_29 : decode cX8_settle 29 = .ok (.putfield 30, 3) := by decide +kernel
theorem dX8_settle_32 : decode cX8_settle 32 = .ok (.aload_n 0, 1) := by decide +kernel
theorem dX8_settle_33 : decode cX8_settle 33 = .ok (.dup, 1) := by decide +kernel
theorem dX8_settle_34 : decode cX8_settle 34 = .ok (.getfield 34, 3) := by decide +kernel
theorem dX8_settle_37 : decode cX8_settle 37 = .ok (.aload_n 0, 1) := by decide +kernel
theorem dX8_settle_38 : decode cX8_settle 38 = .ok (.getfield 15, 3) := by decide +kernel
theorem dX8_settle_41 : decode cX8_settle 41 = .ok (.iload_n 1, 1) := by decide +kernel
theorem dX8_settle_42 : decode cX8_settle 42 = .ok (.iaload, 1) := by decide +kernel
theorem dX8_settle_43 : decode cX8_settle 43 = .ok (.iadd, 1) := by decide +kernel
theorem dX8_settle_44 : decode cX8_settle 44 = .ok (.putfield 34, 3) := by decide +kernel
theorem dX8_settle_47 : decode cX8_settle 47 = .ok (.iinc 1 1, 3) := by decide +kernel
theorem dX8_settle_50 : decode cX8_settle 50 = .ok (.goto (-38), 3) := by decide +kernel
theorem dX8_settle_53 : decode cX8_settle 53 = .ok (.aload_n 0, 1) := by decide +kernel
theorem dX8_settle_54 : decode cX8_settle 54 = .ok (.ldc2_w 37, 3) := by decide +kernel
theorem dX8_settle_57 : decode cX8_settle 57 = .ok (.aload_n 0, 1) := by decide +kernel
theorem dX8_settle_58 : decode cX8_settle 58 = .ok (.getfield 30, 3) := by decide +kernel
theorem dX8_settle_61 : decode cX8_settle 61 = .ok (.i2l, 1) := by decide +kernel
theorem dX8_settle_62 : decode cX8_settle 62 = .ok (.lmul, 1) := by decide +kernel
theorem dX8_settle_63 : decode cX8_settle 63 = .ok (.putfield 39, 3) := by decide +kernel
theorem dX8_settle_66 : decode cX8_settle 66 = .ok (.aload_n 0, 1) := by decide +kernel
theorem dX8_settle_67 : decode cX8_settle 67 = .ok (.aload_n 0, 1) := by decide +kernel
theorem dX8_settle_68 : decode cX8_settle 68 = .ok (.getfield 34, 3) := by decide +kernel
theorem dX8_settle_71 : decode cX8_settle 71 = .ok (.i2l, 1) := by decide +kernel
theorem dX8_settle_72 : decode cX8_settle 72 = .ok (.aload_n 0, 1) := by decide +kernel
theorem dX8_settle_73 : decode cX8_settle 73 = .ok (.getfield 39, 3) := by decide +kernel
theorem dX8_settle_76 : decode cX8_settle 76 = .ok (.lmul, 1) := by decide +kernel
theorem dX8_settle_77 : decode cX8_settle 77 = .ok (.aload_n 0, 1) := by decide +kernel
theorem dX8_settle_78 : decode cX8_settle 78 = .ok (.getfield 39, 3) := by decide +kernel
theorem dX8_settle_81 : decode cX8_settle 81 = .ok (.lmul, 1) := by decide +kernel
theorem dX8_settle_82 : decode cX8_settle 82 = .ok (.aload_n 0, 1) := by decide +kernel
theorem dX8_settle_83 : decode cX8_settle 83 = .ok (.getfield 39, 3) := by decide +kernel
theorem dX8_settle_86 : decode cX8_settle 86 = .ok (.lmul, 1) := by decide +kernel
theorem dX8_settle_87 : decode cX8_settle 87 = .ok (.ldc2_w 43, 3) := by decide +kernel
theorem dX8_settle_90 : decode cX8_settle 90 = .ok (.lmul, 1) := by decide +kernel
theorem dX8_settle_91 : decode cX8_settle 91 = .ok (.putfield 45, 3) := by decide +kernel
theorem dX8_settle_94 : decode cX8_settle 94 = .ok (.return_, 1) := by decide +kernel
theorem dX8_notOther_0 : decode cX8_notOther 0 = .ok (.sipush 1000, 3) := by decide +kernel
theorem dX8_notOther_3 : decode cX8_notOther 3 = .ok (.aload_n 0, 1) := by decide +kernel
theorem dX8_notOther_4 : decode cX8_notOther 4 = .ok (.getfield 15, 3) := by decide +kernel
theorem dX8_notOther_7 : decode cX8_notOther 7 = .ok (.iconst 4, 1) := by decide +kernel
theorem dX8_notOther_8 : decode cX8_notOther 8 = .ok (.iaload, 1) := by decide +kernel
theorem dX8_notOther_9 : decode cX8_notOther 9 = .ok (.isub, 1) := by decide +kernel
theorem dX8_notOther_10 : decode cX8_notOther 10 = .ok (.i2l, 1) := by decide +kernel
theorem dX8_notOther_11 : decode cX8_notOther 11 = .ok (.lreturn, 1) := by decide +kernel
theorem dX8_partStand_0 : decode cX8_partStand 0 = .ok (.aload_n 0, 1) := by decide +kernel
theorem dX8_partStand_1 : decode cX8_partStand 1 = .ok (.getfield 9, 3) := by decide +kernel
theorem dX8_partStand_4 : decode cX8_partStand 4 = .ok (.iload_n 1, 1) := by decide +kernel
theorem dX8_partStand_5 : decode cX8_partStand 5 = .ok (.iaload, 1) := by decide +kernel
theorem dX8_partStand_6 : decode cX8_partStand 6 = .ok (.bipush 10, 2) := by decide +kernel
theorem dX8_partStand_8 : decode cX8_partStand 8 = .ok (.iload_n 2, 1) := by decide +kernel
theorem dX8_partStand_9 : decode cX8_partStand 9 = .ok (.isub, 1) := by decide +kernel
theorem dX8_partStand_10 : decode cX8_partStand 10 = .ok (.imul, 1) := by decide +kernel
theorem dX8_partStand_11 : decode cX8_partStand 11 = .ok (.ireturn, 1) := by decide +kernel
set_option maxRecDepth 20000 in
theorem ggX8_stand_X9_figure : GoodIn wsX8_stand wsX9_figure := goodIn_r _ [3] (by decide +kernel) (by decide +kernel)
set_option maxRecDepth 20000 in
theorem gX8_stand_X9_figure_n48 : GoodIn wsX8_stand (wsX9_figure) := ggX8_stand_X9_figure
set_option maxRecDepth 20000 in
theorem ggX8_stand_X8_partStand : GoodIn wsX8_stand wsX8_partStand := goodIn_r _ [8, 9, 10, 11, 12, 13, 14, 15] (by decide +kernel) (by decide +kernel)
set_option maxRecDepth 20000 in
theorem gX8_stand_X8_partStand : GoodIn wsX8_stand (wsV RX8 52 RX8 yX8_partStand wsX8_partStand) := goodIn_app (goodIn_of _ (by decide +kernel)) ggX8_stand_X8_partStand
theorem dX8_stand_0 : decode cX8_stand 0 = .ok (.iconst 0, 1) := by decide +kernel
theorem dX8_stand_1 : decode cX8_stand 1 = .ok (.istore_n 2, 1) := by decide +kernel
theorem dX8_stand_2 : decode cX8_stand 2 = .ok (.iconst 0, 1) := by decide +kernel
theorem dX8_stand_3 : decode cX8_stand 3 = .ok (.istore_n 3, 1) := by decide +kernel
theorem dX8_stand_4 : decode cX8_stand 4 = .ok (.iload_n 3, 1) := by decide +kernel
theorem dX8_stand_5 : decode cX8_stand 5 = .ok (.iconst 4, 1) := by decide +kernel
theorem dX8_stand_6 : decode cX8_stand 6 = .ok (.if_icmp .ge 22, 3) := by decide +kernel
theorem dX8_stand_9 : decode cX8_stand 9 = .ok (.iload_n 2, 1) := by decide +kernel
theorem dX8_stand_10 : decode cX8_stand 10 = .ok (.aload_n 0, 1) := by decide +kernel
theorem dX8_stand_11 : decode cX8_stand 11 = .ok (.iload_n 3, 1) := by decide +kernel
theorem dX8_stand_12 : decode cX8_stand 12 = .ok (.iload_n 1, 1) := by decide +kernel
theorem dX8_stand_13 : decode cX8_stand 13 = .ok (.iload_n 3, 1) := by decide +kernel
theorem dX8_stand_14 : decode cX8_stand 14 = .ok (.invokestatic 48, 3) := by decide +kernel
theorem dX8_stand_17 : decode cX8_stand 17 = .ok (.invokevirtual 52, 3) := by decide +kernel
theorem dX8_stand_20 : decode cX8_stand 20 = .ok (.iadd, 1) := by decide +kernel
theorem dX8_stand_21 : decode cX8_stand 21 = .ok (.istore_n 2, 1) := by decide +kernel
theorem dX8_stand_22 : decode cX8_stand 22 = .ok (.iinc 3 1, 3) := by decide +kernel
theorem dX8_stand_25 : decode cX8_stand 25 = .ok (.goto (-21), 3) := by decide +kernel
theorem dX8_stand_28 : decode cX8_stand 28 = .ok (.iload_n 2, 1) := by decide +kernel
theorem dX8_stand_29 : decode cX8_stand 29 = .ok (.ireturn, 1) := by decide +kernel
set_option maxRecDepth 20000 in
theorem ggX8_homesTop_X8_notOther : GoodIn wsX8_homesTop wsX8_notOther := goodIn_r _ [7, 1, 8, 9, 10, 11, 12, 13] (by decide +kernel) (by decide +kernel)
set_option maxRecDepth 20000 in
theorem gX8_homesTop_X8_notOther : GoodIn wsX8_homesTop (wsV RX8 55 RX8 yX8_notOther wsX8_notOther) := goodIn_app (goodIn_of _ (by decide +kernel)) ggX8_homesTop_X8_notOther
theorem dX8_homesTop_0 : decode cX8_homesTop 0 = .ok (.aload_n 0, 1) := by decide +kernel
theorem dX8_homesTop_1 : decode cX8_homesTop 1 = .ok (.getfield 15, 3) := by decide +kernel
theorem dX8_homesTop_4 : decode cX8_homesTop 4 = .ok (.iload_n 1, 1) := by decide +kernel
theorem dX8_homesTop_5 : decode cX8_homesTop 5 = .ok (.iaload, 1) := by decide +kernel
theorem dX8_homesTop_6 : decode cX8_homesTop 6 = .ok (.i2l, 1) := by decide +kernel
theorem dX8_homesTop_7 : decode cX8_homesTop 7 = .ok (.aload_n 0, 1) := by decide +kernel
theorem dX8_homesTop_8 : decode cX8_homesTop 8 = .ok (.invokevirtual 55, 3) := by decide +kernel
theorem dX8_homesTop_11 : decode cX8_homesTop 11 = .ok (.lmul, 1) := by decide +kernel
theorem dX8_homesTop_12 : decode cX8_homesTop 12 = .ok (.lstore 4, 2) := by decide +kernel
theorem dX8_homesTop_14 : decode cX8_homesTop 14 = .ok (.iconst 0, 1) := by decide +kernel
theorem dX8_homesTop_15 : decode cX8_homesTop 15 = .ok (.istore 6, 2) := by decide +kernel
theorem dX8_homesTop_17 : decode cX8_homesTop 17 = .ok (.iload 6, 2) := by decide +kernel
theorem dX8_homesTop_19 : decode cX8_homesTop 19 = .ok (.iconst 3, 1) := by decide +kernel
theorem dX8_homesTop_20 : decode cX8_homesTop 20 = .ok (.if_icmp .ge 28, 3) := by decide +kernel
theorem dX8_homesTop_23 : decode cX8_homesTop 23 = .ok (.lload 4, 2) := by decide +kernel
theorem dX8_homesTop_25 : decode cX8_homesTop 25 = .ok (.iload 6, 2) := by decide +kernel
theorem dX8_homesTop_27 : decode cX8_homesTop 27 = .ok (.iload_n 1, 1) := by decide +kernel
theorem dX8_homesTop_28 : decode cX8_homesTop 28 = .ok (.if_icmp .ge 7, 3) := by decide +kernel
theorem dX8_homesTop_31 : decode cX8_homesTop 31 = .ok (.lload_n 2, 1) := by decide +kernel
theorem dX8_homesTop_32 : decode cX8_homesTop 32 = .ok (.goto 7, 3) := by decide +kernel
theorem dX8_homesTop_35 : decode cX8_homesTop 35 = .ok (.aload_n 0, 1) := by decide +kernel
theorem dX8_homesTop_36 : decode cX8_homesTop 36 = .ok (.getfield 39, 3) := by decide +kernel
theorem dX8_homesTop_39 : decode cX8_homesTop 39 = .ok (.lmul, 1) := by decide +kernel
theorem dX8_homesTop_40 : decode cX8_homesTop 40 = .ok (.lstore 4, 2) := by decide +kernel
theorem dX8_homesTop_42 : decode cX8_homesTop 42 = .ok (.iinc 6 1, 3) := by decide +kernel
theorem dX8_homesTop_45 : decode cX8_homesTop 45 = .ok (.goto (-28), 3) := by decide +kernel
theorem dX8_homesTop_48 : decode cX8_homesTop 48 = .ok (.lload 4, 2) := by decide +kernel
theorem dX8_homesTop_50 : decode cX8_homesTop 50 = .ok (.lreturn, 1) := by decide +kernel
set_option maxRecDepth 20000 in
theorem ggX8_holeRate_X8_notOther : GoodIn wsX8_holeRate wsX8_notOther := goodIn_r _ [7, 1, 8, 9, 10, 11, 12, 13] (by decide +kernel) (by decide +kernel)
set_option maxRecDepth 20000 in
theorem gX8_holeRate_X8_notOther : GoodIn wsX8_holeRate (wsV RX8 55 RX8 yX8_notOther wsX8_notOther) := goodIn_app (goodIn_of _ (by decide +kernel)) ggX8_holeRate_X8_notOther
theorem dX8_holeRate_0 : decode cX8_holeRate 0 = .ok (.aload_n 0, 1) := by decide +kernel
theorem dX8_holeRate_1 : decode cX8_holeRate 1 = .ok (.getfield 15, 3) := by decide +kernel
theorem dX8_holeRate_4 : decode cX8_holeRate 4 = .ok (.iconst 1, 1) := by decide +kernel
theorem dX8_holeRate_5 : decode cX8_holeRate 5 = .ok (.iaload, 1) := by decide +kernel
theorem dX8_holeRate_6 : decode cX8_holeRate 6 = .ok (.i2l, 1) := by decide +kernel
theorem dX8_holeRate_7 : decode cX8_holeRate 7 = .ok (.aload_n 0, 1) := by decide +kernel
theorem dX8_holeRate_8 : decode cX8_holeRate 8 = .ok (.getfield 39, 3) := by decide +kernel
theorem dX8_holeRate_11 : decode cX8_holeRate 11 = .ok (.lmul, 1) := by decide +kernel
theorem dX8_holeRate_12 : decode cX8_holeRate 12 = .ok (.aload_n 0, 1) := by decide +kernel
theorem dX8_holeRate_13 : decode cX8_holeRate 13 = .ok (.getfield 39, 3) := by decide +kernel
theorem dX8_holeRate_16 : decode cX8_holeRate 16 = .ok (.lmul, 1) := by decide +kernel
theorem dX8_holeRate_17 : decode cX8_holeRate 17 = .ok (.iconst 2, 1) := by decide +kernel
theorem dX8_holeRate_18 : decode cX8_holeRate 18 = .ok (.aload_n 0, 1) := by decide +kernel
theorem dX8_holeRate_19 : decode cX8_holeRate 19 = .ok (.getfield 15, 3) := by decide +kernel
theorem dX8_holeRate_22 : decode cX8_holeRate 22 = .ok (.iconst 2, 1) := by decide +kernel
theorem dX8_holeRate_23 : decode cX8_holeRate 23 = .ok (.iaload, 1) := by decide +kernel
theorem dX8_holeRate_24 : decode cX8_holeRate 24 = .ok (.imul, 1) := by decide +kernel
theorem dX8_holeRate_25 : decode cX8_holeRate 25 = .ok (.i2l, 1) := by decide +kernel
theorem dX8_holeRate_26 : decode cX8_holeRate 26 = .ok (.lload_n 1, 1) := by decide +kernel
theorem dX8_holeRate_27 : decode cX8_holeRate 27 = .ok (.lmul, 1) := by decide +kernel
theorem dX8_holeRate_28 : decode cX8_holeRate 28 = .ok (.aload_n 0, 1) := by decide +kernel
theorem dX8_holeRate_29 : decode cX8_holeRate 29 = .ok (.getfield 39, 3) := by decide +kernel
theorem dX8_holeRate_32 : decode cX8_holeRate 32 = .ok (.lmul, 1) := by decide +kernel
theorem dX8_holeRate_33 : decode cX8_holeRate 33 = .ok (.ladd, 1) := by decide +kernel
theorem dX8_holeRate_34 : decode cX8_holeRate 34 = .ok (.iconst 3, 1) := by decide +kernel
theorem dX8_holeRate_35 : decode cX8_holeRate 35 = .ok (.aload_n 0, 1) := by decide +kernel
theorem dX8_holeRate_36 : decode cX8_holeRate 36 = .ok (.getfield 15, 3) := by decide +kernel
theorem dX8_holeRate_39 : decode cX8_holeRate 39 = .ok (.iconst 3, 1) := by decide +kernel
theorem dX8_holeRate_40 : decode cX8_holeRate 40 = .ok (.iaload, 1) := by decide +kernel
theorem dX8_holeRate_41 : decode cX8_holeRate 41 = .ok (.imul, 1) := by decide +kernel
theorem dX8_holeRate_42 : decode cX8_holeRate 42 = .ok (.i2l, 1) := by decide +kernel
theorem dX8_holeRate_43 : decode cX8_holeRate 43 = .ok (.lload_n 1, 1) := by decide +kernel
theorem dX8_holeRate_44 : decode cX8_holeRate 44 = .ok (.lmul, 1) := by decide +kernel
theorem dX8_holeRate_45 : decode cX8_holeRate 45 = .ok (.lload_n 1, 1) := by decide +kernel
theorem dX8_holeRate_46 : decode cX8_holeRate 46 = .ok (.lmul, 1) := by decide +kernel
theorem dX8_holeRate_47 : decode cX8_holeRate 47 = .ok (.ladd, 1) := by decide +kernel
theorem dX8_holeRate_48 : decode cX8_holeRate 48 = .ok (.aload_n 0, 1) := by decide +kernel
theorem dX8_holeRate_49 : decode cX8_holeRate 49 = .ok (.invokevirtual 55, 3) := by decide +kernel
theorem dX8_holeRate_52 : decode cX8_holeRate 52 = .ok (.lmul, 1) := by decide +kernel
theorem dX8_holeRate_53 : decode cX8_holeRate 53 = .ok (.lreturn, 1) := by decide +kernel
theorem dJ9_abs_0f7a4_0 : decode cJ9_abs_0f7a4 0 = .ok (.iload_n 0, 1) := by decide +kernel
theorem dJ9_abs_0f7a4_1 : decode cJ9_abs_0f7a4 1 = .ok (.ifCond .ge 8, 3) := by decide +kernel
theorem dJ9_abs_0f7a4_4 : decode cJ9_abs_0f7a4 4 = .ok (.iload_n 0, 1) := by decide +kernel
theorem dJ9_abs_0f7a4_5 : decode cJ9_abs_0f7a4 5 = .ok (.ineg, 1) := by decide +kernel
theorem dJ9_abs_0f7a4_6 : decode cJ9_abs_0f7a4 6 = .ok (.goto 4, 3) := by decide +kernel
theorem dJ9_abs_0f7a4_9 : decode cJ9_abs_0f7a4 9 = .ok (.iload_n 0, 1) := by decide +kernel
theorem dJ9_abs_0f7a4_10 : decode cJ9_abs_0f7a4 10 = .ok (.ireturn, 1) := by decide +kernel
theorem dJ9_abs_067f4_0 : decode cJ9_abs_067f4 0 = .ok (.lload_n 0, 1) := by decide +kernel
theorem dJ9_abs_067f4_1 : decode cJ9_abs_067f4 1 = .ok (.lconst 0, 1) := by decide +kernel
theorem dJ9_abs_067f4_2 : decode cJ9_abs_067f4 2 = .ok (.lcmp, 1) := by decide +kernel
theorem dJ9_abs_067f4_3 : decode cJ9_abs_067f4 3 = .ok (.ifCond .ge 8, 3) := by decide +kernel
theorem dJ9_abs_067f4_6 : decode cJ9_abs_067f4 6 = .ok (.lload_n 0, 1) := by decide +kernel
theorem dJ9_abs_067f4_7 : decode cJ9_abs_067f4 7 = .ok (.lneg, 1) := by decide +kernel
theorem dJ9_abs_067f4_8 : decode cJ9_abs_067f4 8 = .ok (.goto 4, 3) := by decide +kernel
theorem dJ9_abs_067f4_11 : decode cJ9_abs_067f4 11 = .ok (.lload_n 0, 1) := by decide +kernel
theorem dJ9_abs_067f4_12 : decode cJ9_abs_067f4 12 = .ok (.lreturn, 1) := by decide +kernel
theorem dJ9_max_7cf53_0 : decode cJ9_max_7cf53 0 = .ok (.iload_n 0, 1) := by decide +kernel
theorem dJ9_max_7cf53_1 : decode cJ9_max_7cf53 1 = .ok (.iload_n 1, 1) := by decide +kernel
theorem dJ9_max_7cf53_2 : decode cJ9_max_7cf53 2 = .ok (.if_icmp .lt 7, 3) := by decide +kernel
theorem dJ9_max_7cf53_5 : decode cJ9_max_7cf53 5 = .ok (.iload_n 0, 1) := by decide +kernel
theorem dJ9_max_7cf53_6 : decode cJ9_max_7cf53 6 = .ok (.goto 4, 3) := by decide +kernel
theorem dJ9_max_7cf53_9 : decode cJ9_max_7cf53 9 = .ok (.iload_n 1, 1) := by decide +kernel
theorem dJ9_max_7cf53_10 : decode cJ9_max_7cf53 10 = .ok (.ireturn, 1) := by decide +kernel
theorem dJ9_min_7cf53_0 : decode cJ9_min_7cf53 0 = .ok (.iload_n 0, 1) := by decide +kernel
theorem dJ9_min_7cf53_1 : decode cJ9_min_7cf53 1 = .ok (.iload_n 1, 1) := by decide +kernel
theorem dJ9_min_7cf53_2 : decode cJ9_min_7cf53 2 = .ok (.if_icmp .gt 7, 3) := by decide +kernel
theorem dJ9_min_7cf53_5 : decode cJ9_min_7cf53 5 = .ok (.iload_n 0, 1) := by decide +kernel
theorem dJ9_min_7cf53_6 : decode cJ9_min_7cf53 6 = .ok (.goto 4, 3) := by decide +kernel
theorem dJ9_min_7cf53_9 : decode cJ9_min_7cf53 9 = .ok (.iload_n 1, 1) := by decide +kernel
theorem dJ9_min_7cf53_10 : decode cJ9_min_7cf53 10 = .ok (.ireturn, 1) := by decide +kernel
set_option maxRecDepth 20000 in
theorem ggJ0_length_8abf5_J0_coder_7d493 : GoodIn wsJ0_length_8abf5 wsJ0_coder_7d493 := goodIn_r _ [6, 7, 8] (by decide +kernel) (by decide +kernel)
set_option maxRecDepth 20000 in
theorem gJ0_length_8abf5_J0_coder_7d493 : GoodIn wsJ0_length_8abf5 (wsV RJ0 335 RJ0 yJ0_coder_7d493 wsJ0_coder_7d493) := goodIn_app (goodIn_of _ (by decide +kernel)) ggJ0_length_8abf5_J0_coder_7d493
theorem dJ0_length_8abf5_0 : decode cJ0_length_8abf5 0 = .ok (.aload_n 0, 1) := by decide +kernel
theorem dJ0_length_8abf5_1 : decode cJ0_length_8abf5 1 = .ok (.getfield 9, 3) := by decide +kernel
theorem dJ0_length_8abf5_4 : decode cJ0_length_8abf5 4 = .ok (.arraylength, 1) := by decide +kernel
theorem dJ0_length_8abf5_5 : decode cJ0_length_8abf5 5 = .ok (.aload_n 0, 1) := by decide +kernel
theorem dJ0_length_8abf5_6 : decode cJ0_length_8abf5 6 = .ok (.invokevirtual 335, 3) := by decide +kernel
theorem dJ0_length_8abf5_9 : decode cJ0_length_8abf5 9 = .ok (.ishr, 1) := by decide +kernel
theorem dJ0_length_8abf5_10 : decode cJ0_length_8abf5 10 = .ok (.ireturn, 1) := by decide +kernel
set_option maxRecDepth 20000 in
theorem ggJ0_charAt_5068e_J0_isLatin1_aae02 : GoodIn wsJ0_charAt_5068e wsJ0_isLatin1_aae02 := goodIn_r _ [6, 7, 8] (by decide +kernel) (by decide +kernel)
set_option maxRecDepth 20000 in
theorem gJ0_charAt_5068e_J0_isLatin1_aae02 : GoodIn wsJ0_charAt_5068e (wsV RJ0 492 RJ0 yJ0_isLatin1_aae02 wsJ0_isLatin1_aae02) := goodIn_app (goodIn_of _ (by decide +kernel)) ggJ0_charAt_5068e_J0_isLatin1_aae02
set_option maxRecDepth 20000 in
theorem ggJ0_charAt_5068e_J1_charAt_3b067 : GoodIn wsJ0_charAt_5068e wsJ1_charAt_3b067 := goodIn_r _ [12, 13, 14, 5, 15, 16, 17, 18, 19, 20] (by decide +kernel) (by decide +kernel)
set_option maxRecDepth 20000 in
theorem gJ0_charAt_5068e_J1_charAt_3b067 : GoodIn wsJ0_charAt_5068e (va_wsS RJ0 495 yJ1_charAt_3b067 wsJ1_charAt_3b067) := goodIn_app (goodIn_of _ (by decide +kernel)) ggJ0_charAt_5068e_J1_charAt_3b067
set_option maxRecDepth 20000 in
theorem ggJ0_charAt_5068e_J2_charAt_3b067 : GoodIn wsJ0_charAt_5068e wsJ2_charAt_3b067 := goodIn_r _ [24, 25, 26, 23, 27, 28, 29, 30, 31, 14, 5, 15, 16, 17, 18, 19, 20, 32, 33, 34, 35, 36, 37] (by decide +kernel) (by decide +kernel)
set_option maxRecDepth 20000 in
theorem gJ0_charAt_5068e_J2_charAt_3b067 : GoodIn wsJ0_charAt_5068e (va_wsS RJ0 498 yJ2_charAt_3b067 wsJ2_charAt_3b067) := goodIn_app (goodIn_of _ (by decide +kernel)) ggJ0_charAt_5068e_J2_charAt_3b067
theorem dJ0_charAt_5068e_0 : decode cJ0_charAt_5068e 0 = .ok (.aload_n 0, 1) := by decide +kernel
theorem dJ0_charAt_5068e_1 : decode cJ0_charAt_5068e 1 = .ok (.invokevirtual 492, 3) := by decide +kernel
theorem dJ0_charAt_5068e_4 : decode cJ0_charAt_5068e 4 = .ok (.ifCond .eq 12, 3) := by decide +kernel
theorem dJ0_charAt_5068e_7 : decode cJ0_charAt_5068e 7 = .ok (.aload_n 0, 1) := by decide +kernel
theorem dJ0_charAt_5068e_8 : decode cJ0_charAt_5068e 8 = .ok (.getfield 9, 3) := by decide +kernel
theorem dJ0_charAt_5068e_11 : decode cJ0_charAt_5068e 11 = .ok (.iload_n 1, 1) := by decide +kernel
theorem dJ0_charAt_5068e_12 : decode cJ0_charAt_5068e 12 = .ok (.invokestatic 495, 3) := by decide +kernel
theorem dJ0_charAt_5068e_15 : decode cJ0_charAt_5068e 15 = .ok (.ireturn, 1) := by decide +kernel
theorem dJ0_charAt_5068e_16 : decode cJ0_charAt_5068e 16 = .ok (.aload_n 0, 1) := by decide +kernel
theorem dJ0_charAt_5068e_17 : decode cJ0_charAt_5068e 17 = .ok (.getfield 9, 3) := by decide +kernel
theorem dJ0_charAt_5068e_20 : decode cJ0_charAt_5068e 20 = .ok (.iload_n 1, 1) := by decide +kernel
theorem dJ0_charAt_5068e_21 : decode cJ0_charAt_5068e 21 = .ok (.invokestatic 498, 3) := by decide +kernel
theorem dJ0_charAt_5068e_24 : decode cJ0_charAt_5068e 24 = .ok (.ireturn, 1) := by decide +kernel
theorem dJ0_coder_7d493_0 : decode cJ0_coder_7d493 0 = .ok (.getstatic 38, 3) := by decide +kernel
theorem dJ0_coder_7d493_3 : decode cJ0_coder_7d493 3 = .ok (.ifCond .eq 10, 3) := by decide +kernel
theorem dJ0_coder_7d493_6 : decode cJ0_coder_7d493 6 = .ok (.aload_n 0, 1) := by decide +kernel
theorem dJ0_coder_7d493_7 : decode cJ0_coder_7d493 7 = .ok (.getfield 15, 3) := by decide +kernel
theorem dJ0_coder_7d493_10 : decode cJ0_coder_7d493 10 = .ok (.goto 4, 3) := by decide +kernel
theorem dJ0_coder_7d493_13 : decode cJ0_coder_7d493 13 = .ok (.iconst 1, 1) := by decide +kernel
theorem dJ0_coder_7d493_14 : decode cJ0_coder_7d493 14 = .ok (.ireturn, 1) := by decide +kernel
theorem dJ0_isLatin1_aae02_0 : decode cJ0_isLatin1_aae02 0 = .ok (.getstatic 38, 3) := by decide +kernel
theorem dJ0_isLatin1_aae02_3 : decode cJ0_isLatin1_aae02 3 = .ok (.ifCond .eq 14, 3) := by decide +kernel
theorem dJ0_isLatin1_aae02_6 : decode cJ0_isLatin1_aae02 6 = .ok (.aload_n 0, 1) := by decide +kernel
theorem dJ0_isLatin1_aae02_7 : decode cJ0_isLatin1_aae02 7 = .ok (.getfield 15, 3) := by decide +kernel
theorem dJ0_isLatin1_aae02_10 : decode cJ0_isLatin1_aae02 10 = .ok (.ifCond .ne 7, 3) := by decide +kernel
theorem dJ0_isLatin1_aae02_13 : decode cJ0_isLatin1_aae02 13 = .ok (.iconst 1, 1) := by decide +kernel
theorem dJ0_isLatin1_aae02_14 : decode cJ0_isLatin1_aae02 14 = .ok (.goto 4, 3) := by decide +kernel
theorem dJ0_isLatin1_aae02_17 : decode cJ0_isLatin1_aae02 17 = .ok (.iconst 0, 1) := by decide +kernel
theorem dJ0_isLatin1_aae02_18 : decode cJ0_isLatin1_aae02 18 = .ok (.ireturn, 1) := by decide +kernel
set_option maxRecDepth 20000 in
theorem ggJ0_checkIndex_df160_J3_checkIndex_8e157 : GoodIn wsJ0_checkIndex_df160 wsJ3_checkIndex_8e157 := goodIn_r _ [5] (by decide +kernel) (by decide +kernel)
set_option maxRecDepth 20000 in
theorem gJ0_checkIndex_df160_J3_checkIndex_8e157 : GoodIn wsJ0_checkIndex_df160 (va_wsS RJ0 1059 yJ3_checkIndex_8e157 wsJ3_checkIndex_8e157) := goodIn_app (goodIn_of _ (by decide +kernel)) ggJ0_checkIndex_df160_J3_checkIndex_8e157
theorem dJ0_checkIndex_df160_0 : decode cJ0_checkIndex_df160 0 = .ok (.iload_n 0, 1) := by decide +kernel
theorem dJ0_checkIndex_df160_1 : decode cJ0_checkIndex_df160 1 = .ok (.iload_n 1, 1) := by decide +kernel
theorem dJ0_checkIndex_df160_2 : decode cJ0_checkIndex_df160 2 = .ok (.getstatic 1053, 3) := by decide +kernel
theorem dJ0_checkIndex_df160_5 : decode cJ0_checkIndex_df160 5 = .ok (.invokestatic 1059, 3) := by decide +kernel
theorem dJ0_checkIndex_df160_8 : decode cJ0_checkIndex_df160 8 = .ok (.pop, 1) := by decide +kernel
theorem dJ0_checkIndex_df160_9 : decode cJ0_checkIndex_df160 9 = .ok (.return_, 1) := by decide +kernel
set_option maxRecDepth 20000 in
theorem ggJ1_charAt_3b067_J0_checkIndex_df160 : GoodIn wsJ1_charAt_3b067 wsJ0_checkIndex_df160 := goodIn_r _ [4, 5, 6, 7, 8, 9] (by decide +kernel) (by decide +kernel)
set_option maxRecDepth 20000 in
theorem gJ1_charAt_3b067_J0_checkIndex_df160 : GoodIn wsJ1_charAt_3b067 (va_wsS RJ1 9 yJ0_checkIndex_df160 wsJ0_checkIndex_df160) := goodIn_app (goodIn_of _ (by decide +kernel)) ggJ1_charAt_3b067_J0_checkIndex_df160
theorem dJ1_charAt_3b067_0 : decode cJ1_charAt_3b067 0 = .ok (.iload_n 1, 1) := by decide +kernel
theorem dJ1_charAt_3b067_1 : decode cJ1_charAt_3b067 1 = .ok (.aload_n 0, 1) := by decide +kernel
theorem dJ1_charAt_3b067_2 : decode cJ1_charAt_3b067 2 = .ok (.arraylength, 1) := by decide +kernel
theorem dJ1_charAt_3b067_3 : decode cJ1_charAt_3b067 3 = .ok (.invokestatic 9, 3) := by decide +kernel
theorem dJ1_charAt_3b067_6 : decode cJ1_charAt_3b067 6 = .ok (.aload_n 0, 1) := by decide +kernel
theorem dJ1_charAt_3b067_7 : decode cJ1_charAt_3b067 7 = .ok (.iload_n 1, 1) := by decide +kernel
theorem dJ1_charAt_3b067_8 : decode cJ1_charAt_3b067 8 = .ok (.baload, 1) := by decide +kernel
theorem dJ1_charAt_3b067_9 : decode cJ1_charAt_3b067 9 = .ok (.sipush 255, 3) := by decide +kernel
theorem dJ1_charAt_3b067_12 : decode cJ1_charAt_3b067 12 = .ok (.iand, 1) := by decide +kernel
theorem dJ1_charAt_3b067_13 : decode cJ1_charAt_3b067 13 = .ok (.i2c, 1) := by decide +kernel
theorem dJ1_charAt_3b067_14 : decode cJ1_charAt_3b067 14 = .ok (.ireturn, 1) := by decide +kernel
set_option maxRecDepth 20000 in
theorem ggJ2_getChar_3b067_J2_length_9d52b : GoodIn wsJ2_getChar_3b067 wsJ2_length_9d52b := goodIn_r _ [7] (by decide +kernel) (by decide +kernel)
set_option maxRecDepth 20000 in
theorem gJ2_getChar_3b067_J2_length_9d52b : GoodIn wsJ2_getChar_3b067 (va_wsS RJ2 48 yJ2_length_9d52b wsJ2_length_9d52b) := goodIn_app (goodIn_of _ (by decide +kernel)) ggJ2_getChar_3b067_J2_length_9d52b
theorem dJ2_getChar_3b067_0 : decode cJ2_getChar_3b067 0 = .ok (.getstatic 44, 3) := by decide +kernel
theorem dJ2_getChar_3b067_3 : decode cJ2_getChar_3b067 3 = .ok (.ifCond .ne 25, 3) := by decide +kernel
theorem dJ2_getChar_3b067_6 : decode cJ2_getChar_3b067 6 = .ok (.iload_n 1, 1) := by decide +kernel
theorem dJ2_getChar_3b067_7 : decode cJ2_getChar_3b067 7 = .ok (.ifCond .lt 11, 3) := by decide +kernel
theorem dJ2_getChar_3b067_10 : decode cJ2_getChar_3b067 10 = .ok (.iload_n 1, 1) := by decide +kernel
theorem dJ2_getChar_3b067_11 : decode cJ2_getChar_3b067 11 = .ok (.aload_n 0, 1) := by decide +kernel
theorem dJ2_getChar_3b067_12 : decode cJ2_getChar_3b067 12 = .ok (.invokestatic 48, 3) := by decide +kernel
theorem dJ2_getChar_3b067_15 : decode cJ2_getChar_3b067 15 = .ok (.if_icmp .lt 13, 3) := by decide +kernel
theorem dJ2_getChar_3b067_18 : decode cJ2_getChar_3b067 18 = .ok (.new 52, 3) := by decide +kernel
theorem dJ2_getChar_3b067_21 : decode cJ2_getChar_3b067 21 = .ok (.dup, 1) := by decide +kernel
theorem dJ2_getChar_3b067_22 : decode cJ2_getChar_3b067 22 = .ok (.ldc 54, 2) := by decide +kernel
theorem dJ2_getChar_3b067_24 : decode cJ2_getChar_3b067 24 = .ok (.invokespecial 56, 3) := by decide +kernel
theorem dJ2_getChar_3b067_27 : decode cJ2_getChar_3b067 27 = .ok (.athrow, 1) := by decide +kernel
theorem dJ2_getChar_3b067_28 : decode cJ2_getChar_3b067 28 = .ok (.iload_n 1, 1) := by decide +kernel
theorem dJ2_getChar_3b067_29 : decode cJ2_getChar_3b067 29 = .ok (.iconst 1, 1) := by decide +kernel
theorem dJ2_getChar_3b067_30 : decode cJ2_getChar_3b067 30 = .ok (.ishl, 1) := by decide +kernel
theorem dJ2_getChar_3b067_31 : decode cJ2_getChar_3b067 31 = .ok (.istore_n 1, 1) := by decide +kernel
theorem dJ2_getChar_3b067_32 : decode cJ2_getChar_3b067 32 = .ok (.aload_n 0, 1) := by decide +kernel
theorem dJ2_getChar_3b067_33 : decode cJ2_getChar_3b067 33 = .ok (.iload_n 1, 1) := by decide +kernel
theorem dJ2_getChar_3b067_34 : decode cJ2_getChar_3b067 34 = .ok (.iinc 1 1, 3) := by decide +kernel
theorem dJ2_getChar_3b067_37 : decode cJ2_getChar_3b067 37 = .ok (.baload, 1) := by decide +kernel
theorem dJ2_getChar_3b067_38 : decode cJ2_getChar_3b067 38 = .ok (.sipush 255, 3) := by decide +kernel
theorem dJ2_getChar_3b067_41 : decode cJ2_getChar_3b067 41 = .ok (.iand, 1) := by decide +kernel
theorem dJ2_getChar_3b067_42 : decode cJ2_getChar_3b067 42 = .ok (.getstatic 59, 3) := by decide +kernel
theorem dJ2_getChar_3b067_45 : decode cJ2_getChar_3b067 45 = .ok (.ishl, 1) := by decide +kernel
theorem dJ2_getChar_3b067_46 : decode cJ2_getChar_3b067 46 = .ok (.aload_n 0, 1) := by decide +kernel
theorem dJ2_getChar_3b067_47 : decode cJ2_getChar_3b067 47 = .ok (.iload_n 1, 1) := by decide +kernel
theorem dJ2_getChar_3b067_48 : decode cJ2_getChar_3b067 48 = .ok (.baload, 1) := by decide +kernel
theorem dJ2_getChar_3b067_49 : decode cJ2_getChar_3b067 49 = .ok (.sipush 255, 3) := by decide +kernel
theorem dJ2_getChar_3b067_52 : decode cJ2_getChar_3b067 52 = .ok (.iand, 1) := by decide +kernel
theorem dJ2_getChar_3b067_53 : decode cJ2_getChar_3b067 53 = .ok (.getstatic 63, 3) := by decide +kernel
theorem dJ2_getChar_3b067_56 : decode cJ2_getChar_3b067 56 = .ok (.ishl, 1) := by decide +kernel
theorem dJ2_getChar_3b067_57 : decode cJ2_getChar_3b067 57 = .ok (.ior, 1) := by decide +kernel
theorem dJ2_getChar_3b067_58 : decode cJ2_getChar_3b067 58 = .ok (.i2c, 1) := by decide +kernel
theorem dJ2_getChar_3b067_59 : decode cJ2_getChar_3b067 59 = .ok (.ireturn, 1) := by decide +kernel
theorem dJ2_length_9d52b_0 : decode cJ2_length_9d52b 0 = .ok (.aload_n 0, 1) := by decide +kernel
theorem dJ2_length_9d52b_1 : decode cJ2_length_9d52b 1 = .ok (.arraylength, 1) := by decide +kernel
theorem dJ2_length_9d52b_2 : decode cJ2_length_9d52b 2 = .ok (.iconst 1, 1) := by decide +kernel
theorem dJ2_length_9d52b_3 : decode cJ2_length_9d52b 3 = .ok (.ishr, 1) := by decide +kernel
theorem dJ2_length_9d52b_4 : decode cJ2_length_9d52b 4 = .ok (.ireturn, 1) := by decide +kernel
set_option maxRecDepth 20000 in
theorem ggJ2_charAt_3b067_J2_checkIndex_2214a : GoodIn wsJ2_charAt_3b067 wsJ2_checkIndex_2214a := goodIn_r _ [4, 5, 6, 3, 7, 8, 9, 10, 11, 12, 13, 14, 15, 16] (by decide +kernel) (by decide +kernel)
set_option maxRecDepth 20000 in
theorem gJ2_charAt_3b067_J2_checkIndex_2214a : GoodIn wsJ2_charAt_3b067 (va_wsS RJ2 67 yJ2_checkIndex_2214a wsJ2_checkIndex_2214a) := goodIn_app (goodIn_of _ (by decide +kernel)) ggJ2_charAt_3b067_J2_checkIndex_2214a
set_option maxRecDepth 20000 in
theorem ggJ2_charAt_3b067_J2_getChar_3b067 : GoodIn wsJ2_charAt_3b067 wsJ2_getChar_3b067 := goodIn_r _ [19, 20, 21, 22, 5, 6, 3, 7] (by decide +kernel) (by decide +kernel)
set_option maxRecDepth 20000 in
theorem gJ2_charAt_3b067_J2_getChar_3b067 : GoodIn wsJ2_charAt_3b067 (va_wsS RJ2 71 yJ2_getChar_3b067 wsJ2_getChar_3b067) := goodIn_app (goodIn_of _ (by decide +kernel)) ggJ2_charAt_3b067_J2_getChar_3b067
theorem dJ2_charAt_3b067_0 : decode cJ2_charAt_3b067 0 = .ok (.iload_n 1, 1) := by decide +kernel
theorem dJ2_charAt_3b067_1 : decode cJ2_charAt_3b067 1 = .ok (.aload_n 0, 1) := by decide +kernel
theorem dJ2_charAt_3b067_2 : decode cJ2_charAt_3b067 2 = .ok (.invokestatic 67, 3) := by decide +kernel
theorem dJ2_charAt_3b067_5 : decode cJ2_charAt_3b067 5 = .ok (.aload_n 0, 1) := by decide +kernel
theorem dJ2_charAt_3b067_6 : decode cJ2_charAt_3b067 6 = .ok (.iload_n 1, 1) := by decide +kernel
theorem dJ2_charAt_3b067_7 : decode cJ2_charAt_3b067 7 = .ok (.invokestatic 71, 3) := by decide +kernel
theorem dJ2_charAt_3b067_10 : decode cJ2_charAt_3b067 10 = .ok (.ireturn, 1) := by decide +kernel
set_option maxRecDepth 20000 in
theorem ggJ2_checkIndex_2214a_J2_length_9d52b : GoodIn wsJ2_checkIndex_2214a wsJ2_length_9d52b := goodIn_r _ [4] (by decide +kernel) (by decide +kernel)
set_option maxRecDepth 20000 in
theorem gJ2_checkIndex_2214a_J2_length_9d52b : GoodIn wsJ2_checkIndex_2214a (va_wsS RJ2 48 yJ2_length_9d52b wsJ2_length_9d52b) := goodIn_app (goodIn_of _ (by decide +kernel)) ggJ2_checkIndex_2214a_J2_length_9d52b
set_option maxRecDepth 20000 in
theorem ggJ2_checkIndex_2214a_J0_checkIndex_df160 : GoodIn wsJ2_checkIndex_2214a wsJ0_checkIndex_df160 := goodIn_r _ [8, 9, 10, 11, 12, 13] (by decide +kernel) (by decide +kernel)
set_option maxRecDepth 20000 in
theorem gJ2_checkIndex_2214a_J0_checkIndex_df160 : GoodIn wsJ2_checkIndex_2214a (va_wsS RJ2 414 yJ0_checkIndex_df160 wsJ0_checkIndex_df160) := goodIn_app (goodIn_of _ (by decide +kernel)) ggJ2_checkIndex_2214a_J0_checkIndex_df160
theorem dJ2_checkIndex_2214a_0 : decode cJ2_checkIndex_2214a 0 = .ok (.iload_n 0, 1) := by decide +kernel
theorem dJ2_checkIndex_2214a_1 : decode cJ2_checkIndex_2214a 1 = .ok (.aload_n 1, 1) := by decide +kernel
theorem dJ2_checkIndex_2214a_2 : decode cJ2_checkIndex_2214a 2 = .ok (.invokestatic 48, 3) := by decide +kernel
theorem dJ2_checkIndex_2214a_5 : decode cJ2_checkIndex_2214a 5 = .ok (.invokestatic 414, 3) := by decide +kernel
theorem dJ2_checkIndex_2214a_8 : decode cJ2_checkIndex_2214a 8 = .ok (.return_, 1) := by decide +kernel
theorem dJ3_checkIndex_8e157_0 : decode cJ3_checkIndex_8e157 0 = .ok (.iload_n 0, 1) := by decide +kernel
theorem dJ3_checkIndex_8e157_1 : decode cJ3_checkIndex_8e157 1 = .ok (.ifCond .lt 8, 3) := by decide +kernel
theorem dJ3_checkIndex_8e157_4 : decode cJ3_checkIndex_8e157 4 = .ok (.iload_n 0, 1) := by decide +kernel
theorem dJ3_checkIndex_8e157_5 : decode cJ3_checkIndex_8e157 5 = .ok (.iload_n 1, 1) := by decide +kernel
theorem dJ3_checkIndex_8e157_6 : decode cJ3_checkIndex_8e157 6 = .ok (.if_icmp .lt 10, 3) := by decide +kernel
theorem dJ3_checkIndex_8e157_9 : decode cJ3_checkIndex_8e157 9 = .ok (.aload_n 2, 1) := by decide +kernel
theorem dJ3_checkIndex_8e157_10 : decode cJ3_checkIndex_8e157 10 = .ok (.iload_n 0, 1) := by decide +kernel
theorem dJ3_checkIndex_8e157_11 : decode cJ3_checkIndex_8e157 11 = .ok (.iload_n 1, 1) := by decide +kernel
theorem dJ3_checkIndex_8e157_12 : decode cJ3_checkIndex_8e157 12 = .ok (.invokestatic 95, 3) := by decide +kernel
theorem dJ3_checkIndex_8e157_15 : decode cJ3_checkIndex_8e157 15 = .ok (.athrow, 1) := by decide +kernel
theorem dJ3_checkIndex_8e157_16 : decode cJ3_checkIndex_8e157 16 = .ok (.iload_n 0, 1) := by decide +kernel
theorem dJ3_checkIndex_8e157_17 : decode cJ3_checkIndex_8e157 17 = .ok (.ireturn, 1) := by decide +kernel
