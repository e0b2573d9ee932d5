theorem dX4_init_0 : decode cX4_init 0 = .ok (.aload_n 0, 1) := by decide +kernel
theorem dX4_init_1 : decode cX4_init 1 = .ok (.invokespecial 3, 3) := by decide +kernel
theorem dX4_init_4 : decode cX4_init 4 = .ok (.aload_n 0, 1) := by decide +kernel
theorem dX4_init_5 : decode cX4_init 5 = .ok (.aload_n 1, 1) := by decide +kernel
theorem dX4_init_6 : decode cX4_init 6 = .ok (.putfield 9, 3) := by decide +kernel
theorem dX4_init_9 : decode cX4_init 9 = .ok (.aload_n 0, 1) := by decide +kernel
theorem dX4_init_10 : decode cX4_init 10 = .ok (.aload_n 2, 1) := by decide +kernel
theorem dX4_init_11 : decode cX4_init 11 = .ok (.putfield 15, 3) := by decide +kernel
theorem dX4_init_14 : decode cX4_init 14 = .ok (.aload_n 0, 1) := by decide +kernel
theorem dX4_init_15 : decode cX4_init 15 = .ok (.aload_n 3, 1) := by decide +kernel
theorem dX4_init_16 : decode cX4_init 16 = .ok (.putfield 19, 3) := by decide +kernel
theorem dX4_init_19 : decode cX4_init 19 = .ok (.aload_n 0, 1) := by decide +kernel
theorem dX4_init_20 : decode cX4_init 20 = .ok (.aload 4, 2) := by decide +kernel
theorem dX4_init_22 : decode cX4_init 22 = .ok (.putfield 23, 3) := by decide +kernel
theorem dX4_init_25 : decode cX4_init 25 = .ok (.return_, 1) := by decide +kernel
set_option maxRecDepth 20000 in
theorem ggX4_tell_X1_settle : GoodIn wsX4_tell wsX1_settle := goodIn_r _ [8, 9, 10, 11, 12, 13, 14, 15, 7, 16, 17, 18, 19, 20, 21, 22, 23, 24, 25, 99, 100, 101, 102, 103, 104] (by decide +kernel) (by decide +kernel)
set_option maxRecDepth 20000 in
theorem gX4_tell_X1_settle : GoodIn wsX4_tell (wsV RX4 27 RX1 yX1_settle wsX1_settle) := goodIn_app (goodIn_of _ (by decide +kernel)) ggX4_tell_X1_settle
set_option maxRecDepth 20000 in
theorem ggX4_tell_X2_putNumber : GoodIn wsX4_tell wsX2_putNumber := goodIn_r _ [30, 31, 32, 33, 29, 34, 35, 36, 105, 106] (by decide +kernel) (by decide +kernel)
set_option maxRecDepth 20000 in
theorem gX4_tell_X2_putNumber : GoodIn wsX4_tell (wsV RX4 33 RX2 yX2_putNumber wsX2_putNumber) := goodIn_app (goodIn_of _ (by decide +kernel)) ggX4_tell_X2_putNumber
set_option maxRecDepth 20000 in
theorem ggX4_tell_X1_setDepot : GoodIn wsX4_tell wsX1_setDepot := goodIn_r _ [40, 12, 41, 13, 14, 15, 7, 16, 9, 99, 100, 101, 102, 103, 104] (by decide +kernel) (by decide +kernel)
set_option maxRecDepth 20000 in
theorem gX4_tell_X1_setDepot : GoodIn wsX4_tell (wsV RX4 39 RX1 yX1_setDepot wsX1_setDepot) := goodIn_app (goodIn_of _ (by decide +kernel)) ggX4_tell_X1_setDepot
set_option maxRecDepth 20000 in
theorem ggX4_tell_X1_setRoad : GoodIn wsX4_tell wsX1_setRoad := goodIn_r _ [45, 11, 9, 13, 14, 15, 7, 16, 17, 18, 19, 20, 10, 21, 22, 23, 24, 25, 99, 100, 101, 102, 103, 104] (by decide +kernel) (by decide +kernel)
set_option maxRecDepth 20000 in
theorem gX4_tell_X1_setRoad : GoodIn wsX4_tell (wsV RX4 43 RX1 yX1_setRoad wsX1_setRoad) := goodIn_app (goodIn_of _ (by decide +kernel)) ggX4_tell_X1_setRoad
set_option maxRecDepth 20000 in
theorem ggX4_tell_X4_tellNearest : GoodIn wsX4_tell wsX4_tellNearest := goodIn_r _ [50, 3, 1, 2, 51, 52, 53, 54, 55, 56, 57, 58, 59, 60, 23, 24, 7, 25, 21, 61, 32, 33, 29, 34, 35, 36, 26, 27, 28, 30, 31, 62, 95, 96, 97, 98, 107, 108, 99, 100, 101, 102, 103, 104, 105, 106] (by decide +kernel) (by decide +kernel)
set_option maxRecDepth 20000 in
theorem gX4_tell_X4_tellNearest : GoodIn wsX4_tell (wsV RX4 46 RX4 yX4_tellNearest wsX4_tellNearest) := goodIn_app (goodIn_of _ (by decide +kernel)) ggX4_tell_X4_tellNearest
set_option maxRecDepth 20000 in
theorem ggX4_tell_X1_gap : GoodIn wsX4_tell wsX1_gap := goodIn_r _ [25, 21, 99, 100, 101, 102, 103, 104] (by decide +kernel) (by decide +kernel)
set_option maxRecDepth 20000 in
theorem gX4_tell_X1_gap : GoodIn wsX4_tell (wsV RX4 49 RX1 yX1_gap wsX1_gap) := goodIn_app (goodIn_of _ (by decide +kernel)) ggX4_tell_X1_gap
set_option maxRecDepth 20000 in
theorem ggX4_tell_X4_tellWay : GoodIn wsX4_tell wsX4_tellWay := goodIn_r _ [66, 67, 68, 1, 69, 70, 71, 72, 73, 74, 75, 76, 77, 78, 79, 14, 15, 7, 16, 9, 61, 32, 33, 29, 34, 35, 36, 26, 27, 28, 30, 31, 95, 96, 97, 98, 109, 110, 111, 112, 99, 100, 101, 102, 103, 104, 105, 106] (by decide +kernel) (by decide +kernel)
set_option maxRecDepth 20000 in
theorem gX4_tell_X4_tellWay : GoodIn wsX4_tell (wsV RX4 52 RX4 yX4_tellWay wsX4_tellWay) := goodIn_app (goodIn_of _ (by decide +kernel)) ggX4_tell_X4_tellWay
set_option maxRecDepth 20000 in
theorem ggX4_tell_X0_countWithin : GoodIn wsX4_tell wsX0_countWithin := goodIn_r _ [83, 57, 58, 59, 60, 23, 24, 7, 25, 21, 107, 108, 99, 100, 101, 102, 103, 104] (by decide +kernel) (by decide +kernel)
set_option maxRecDepth 20000 in
theorem gX4_tell_X0_countWithin : GoodIn wsX4_tell (wsV RX4 56 RX0 yX0_countWithin wsX0_countWithin) := goodIn_app (goodIn_of _ (by decide +kernel)) ggX4_tell_X0_countWithin
set_option maxRecDepth 20000 in
theorem ggX4_tell_X4_tellAll : GoodIn wsX4_tell wsX4_tellAll := goodIn_r _ [87, 2, 88, 1, 89, 90, 61, 32, 33, 29, 34, 35, 36, 26, 27, 28, 30, 31, 95, 96, 97, 98, 99, 100, 101, 102, 103, 104, 105, 106] (by decide +kernel) (by decide +kernel)
set_option maxRecDepth 20000 in
theorem gX4_tell_X4_tellAll : GoodIn wsX4_tell (wsV RX4 61 RX4 yX4_tellAll wsX4_tellAll) := goodIn_app (goodIn_of _ (by decide +kernel)) ggX4_tell_X4_tellAll
set_option maxRecDepth 20000 in
theorem ggX4_tell_X0_total : GoodIn wsX4_tell wsX0_total := goodIn_r _ [94, 57, 58, 59, 60, 23, 24, 7, 25, 21, 107, 108, 99, 100, 101, 102, 103, 104] (by decide +kernel) (by decide +kernel)
set_option maxRecDepth 20000 in
theorem gX4_tell_X0_total : GoodIn wsX4_tell (wsV RX4 64 RX0 yX0_total wsX0_total) := goodIn_app (goodIn_of _ (by decide +kernel)) ggX4_tell_X0_total
theorem dX4_tell_0 : decode cX4_tell 0 = .ok (.iload_n 1, 1) := by decide +kernel
theorem dX4_tell_1 : decode cX4_tell 1 = .ok (.tableswitch 189 0 8 #[51, 70, 89, 108, 127, 135, 154, 163, 182], 51) := by decide +kernel
theorem dX4_tell_52 : decode cX4_tell 52 = .ok (.aload_n 0, 1) := by decide +kernel
theorem dX4_tell_53 : decode cX4_tell 53 = .ok (.getfield 23, 3) := by decide +kernel
theorem dX4_tell_56 : decode cX4_tell 56 = .ok (.aload_n 0, 1) := by decide +kernel
theorem dX4_tell_57 : decode cX4_tell 57 = .ok (.getfield 9, 3) := by decide +kernel
theorem dX4_tell_60 : decode cX4_tell 60 = .ok (.iload_n 2, 1) := by decide +kernel
theorem dX4_tell_61 : decode cX4_tell 61 = .ok (.iload_n 3, 1) := by decide +kernel
theorem dX4_tell_62 : decode cX4_tell 62 = .ok (.invokevirtual 27, 3) := by decide +kernel
theorem dX4_tell_65 : decode cX4_tell 65 = .ok (.invokevirtual 33, 3) := by decide +kernel
theorem dX4_tell_68 : decode cX4_tell 68 = .ok (.goto 137, 3) := by decide +kernel
theorem dX4_tell_71 : decode cX4_tell 71 = .ok (.aload_n 0, 1) := by decide +kernel
theorem dX4_tell_72 : decode cX4_tell 72 = .ok (.getfield 23, 3) := by decide +kernel
theorem dX4_tell_75 : decode cX4_tell 75 = .ok (.aload_n 0, 1) := by decide +kernel
theorem dX4_tell_76 : decode cX4_tell 76 = .ok (.getfield 9, 3) := by decide +kernel
theorem dX4_tell_79 : decode cX4_tell 79 = .ok (.iload_n 2, 1) := by decide +kernel
theorem dX4_tell_80 : decode cX4_tell 80 = .ok (.iconst 1, 1) := by decide +kernel
theorem dX4_tell_81 : decode cX4_tell 81 = .ok (.invokevirtual 39, 3) := by decide +kernel
theorem dX4_tell_84 : decode cX4_tell 84 = .ok (.invokevirtual 33, 3) := by decide +kernel
theorem dX4_tell_87 : decode cX4_tell 87 = .ok (.goto 118, 3) := by decide +kernel
theorem dX4_tell_90 : decode cX4_tell 90 = .ok (.aload_n 0, 1) := by decide +kernel
theorem dX4_tell_91 : decode cX4_tell 91 = .ok (.getfield 23, 3) := by decide +kernel
theorem dX4_tell_94 : decode cX4_tell 94 = .ok (.aload_n 0, 1) := by decide +kernel
theorem dX4_tell_95 : decode cX4_tell 95 = .ok (.getfield 9, 3) := by decide +kernel
theorem dX4_tell_98 : decode cX4_tell 98 = .ok (.iload_n 2, 1) := by decide +kernel
theorem dX4_tell_99 : decode cX4_tell 99 = .ok (.iconst 0, 1) := by decide +kernel
theorem dX4_tell_100 : decode cX4_tell 100 = .ok (.invokevirtual 39, 3) := by decide +kernel
theorem dX4_tell_103 : decode cX4_tell 103 = .ok (.invokevirtual 33, 3) := by decide +kernel
theorem dX4_tell_106 : decode cX4_tell 106 = .ok (.goto 99, 3) := by decide +kernel
theorem dX4_tell_109 : decode cX4_tell 109 = .ok (.aload_n 0, 1) := by decide +kernel
theorem dX4_tell_110 : decode cX4_tell 110 = .ok (.getfield 23, 3) := by decide +kernel
theorem dX4_tell_113 : decode cX4_tell 113 = .ok (.aload_n 0, 1) := by decide +kernel
theorem dX4_tell_114 : decode cX4_tell 114 = .ok (.getfield 9, 3) := by decide +kernel
theorem dX4_tell_117 : decode cX4_tell 117 = .ok (.iload_n 2, 1) := by decide +kernel
theorem dX4_tell_118 : decode cX4_tell 118 = .ok (.iload_n 3, 1) := by decide +kernel
theorem dX4_tell_119 : decode cX4_tell 119 = .ok (.invokevirtual 43, 3) := by decide +kernel
theorem dX4_tell_122 : decode cX4_tell 122 = .ok (.invokevirtual 33, 3) := by decide +kernel
theorem dX4_tell_125 : decode cX4_tell 125 = .ok (.goto 80, 3) := by decide +kernel
theorem dX4_tell_128 : decode cX4_tell 128 = .ok (.aload_n 0, 1) := by decide +kernel
theorem dX4_tell_129 : decode cX4_tell 129 = .ok (.iload_n 2, 1) := by decide +kernel
theorem dX4_tell_130 : decode cX4_tell 130 = .ok (.invokevirtual 46, 3) := by decide +kernel
theorem dX4_tell_133 : decode cX4_tell 133 = .ok (.goto 72, 3) := by decide +kernel
theorem dX4_tell_136 : decode cX4_tell 136 = .ok (.aload_n 0, 1) := by decide +kernel
theorem dX4_tell_137 : decode cX4_tell 137 = .ok (.getfield 23, 3) := by decide +kernel
theorem dX4_tell_140 : decode cX4_tell 140 = .ok (.aload_n 0, 1) := by decide +kernel
theorem dX4_tell_141 : decode cX4_tell 141 = .ok (.getfield 9, 3) := by decide +kernel
theorem dX4_tell_144 : decode cX4_tell 144 = .ok (.iload_n 2, 1) := by decide +kernel
theorem dX4_tell_145 : decode cX4_tell 145 = .ok (.iload_n 3, 1) := by decide +kernel
theorem dX4_tell_146 : decode cX4_tell 146 = .ok (.invokevirtual 49, 3) := by decide +kernel
theorem dX4_tell_149 : decode cX4_tell 149 = .ok (.invokevirtual 33, 3) := by decide +kernel
theorem dX4_tell_152 : decode cX4_tell 152 = .ok (.goto 53, 3) := by decide +kernel
theorem dX4_tell_155 : decode cX4_tell 155 = .ok (.aload_n 0, 1) := by decide +kernel
theorem dX4_tell_156 : decode cX4_tell 156 = .ok (.iload_n 2, 1) := by decide +kernel
theorem dX4_tell_157 : decode cX4_tell 157 = .ok (.iload_n 3, 1) := by decide +kernel
theorem dX4_tell_158 : decode cX4_tell 158 = .ok (.invokevirtual 52, 3) := by decide +kernel
theorem dX4_tell_161 : decode cX4_tell 161 = .ok (.goto 44, 3) := by decide +kernel
theorem dX4_tell_164 : decode cX4_tell 164 = .ok (.aload_n 0, 1) := by decide +kernel
theorem dX4_tell_165 : decode cX4_tell 165 = .ok (.getfield 23, 3) := by decide +kernel
theorem dX4_tell_168 : decode cX4_tell 168 = .ok (.aload_n 0, 1) := by decide +kernel
theorem dX4_tell_169 : decode cX4_tell 169 = .ok (.getfield 19, 3) := by decide +kernel
theorem dX4_tell_172 : decode cX4_tell 172 = .ok (.iload_n 2, 1) := by decide +kernel
theorem dX4_tell_173 : decode cX4_tell 173 = .ok (.iload_n 3, 1) := by decide +kernel
theorem dX4_tell_174 : decode cX4_tell 174 = .ok (.invokevirtual 56, 3) := by decide +kernel
theorem dX4_tell_177 : decode cX4_tell 177 = .ok (.invokevirtual 33, 3) := by decide +kernel
theorem dX4_tell_180 : decode cX4_tell 180 = .ok (.goto 25, 3) := by decide +kernel
theorem dX4_tell_183 : decode cX4_tell 183 = .ok (.aload_n 0, 1) := by decide +kernel
theorem dX4_tell_184 : decode cX4_tell 184 = .ok (.invokevirtual 61, 3) := by decide +kernel
theorem dX4_tell_187 : decode cX4_tell 187 = .ok (.goto 18, 3) := by decide +kernel
theorem dX4_tell_190 : decode cX4_tell 190 = .ok (.aload_n 0, 1) := by decide +kernel
theorem dX4_tell_191 : decode cX4_tell 191 = .ok (.getfield 23, 3) := by decide +kernel
theorem dX4_tell_194 : decode cX4_tell 194 = .ok (.aload_n 0, 1) := by decide +kernel
theorem dX4_tell_195 : decode cX4_tell 195 = .ok (.getfield 19, 3) := by decide +kernel
theorem dX4_tell_198 : decode cX4_tell 198 = .ok (.iload_n 2, 1) := by decide +kernel
theorem dX4_tell_199 : decode cX4_tell 199 = .ok (.invokevirtual 64, 3) := by decide +kernel
theorem dX4_tell_202 : decode cX4_tell 202 = .ok (.invokevirtual 33, 3) := by decide +kernel
theorem dX4_tell_205 : decode cX4_tell 205 = .ok (.return_, 1) := by decide +kernel
set_option maxRecDepth 20000 in
theorem ggX4_tellNearest_X0_closest : GoodIn wsX4_tellNearest wsX0_closest := goodIn_r _ [8, 9, 10, 11, 12, 13, 14, 15, 16, 17, 18, 36, 37, 38, 39, 40, 41, 42, 43] (by decide +kernel) (by decide +kernel)
set_option maxRecDepth 20000 in
theorem gX4_tellNearest_X0_closest : GoodIn wsX4_tellNearest (wsV RX4 68 RX0 yX0_closest wsX0_closest) := goodIn_app (goodIn_of _ (by decide +kernel)) ggX4_tellNearest_X0_closest
set_option maxRecDepth 20000 in
theorem ggX4_tellNearest_X2_put : GoodIn wsX4_tellNearest wsX2_put := goodIn_r _ [23, 24, 25, 44, 45] (by decide +kernel) (by decide +kernel)
set_option maxRecDepth 20000 in
theorem gX4_tellNearest_X2_put : GoodIn wsX4_tellNearest (wsV RX4 71 RX2 yX2_put wsX2_put) := goodIn_app (goodIn_of _ (by decide +kernel)) ggX4_tellNearest_X2_put
set_option maxRecDepth 20000 in
theorem ggX4_tellNearest_X2_putNumber : GoodIn wsX4_tellNearest wsX2_putNumber := goodIn_r _ [29, 30, 20, 21, 22, 23, 24, 25, 44, 45] (by decide +kernel) (by decide +kernel)
set_option maxRecDepth 20000 in
theorem gX4_tellNearest_X2_putNumber : GoodIn wsX4_tellNearest (wsV RX4 33 RX2 yX2_putNumber wsX2_putNumber) := goodIn_app (goodIn_of _ (by decide +kernel)) ggX4_tellNearest_X2_putNumber
set_option maxRecDepth 20000 in
theorem ggX4_tellNearest_X1_gap : GoodIn wsX4_tellNearest wsX1_gap := goodIn_r _ [17, 18, 38, 39, 40, 41, 42, 43] (by decide +kernel) (by decide +kernel)
set_option maxRecDepth 20000 in
theorem gX4_tellNearest_X1_gap : GoodIn wsX4_tellNearest (wsV RX4 49 RX1 yX1_gap wsX1_gap) := goodIn_app (goodIn_of _ (by decide +kernel)) ggX4_tellNearest_X1_gap
theorem dX4_tellNearest_0 : decode cX4_tellNearest 0 = .ok (.aload_n 0, 1) := by decide +kernel
theorem dX4_tellNearest_1 : decode cX4_tellNearest 1 = .ok (.getfield 19, 3) := by decide +kernel
theorem dX4_tellNearest_4 : decode cX4_tellNearest 4 = .ok (.iload_n 1, 1) := by decide +kernel
theorem dX4_tellNearest_5 : decode cX4_tellNearest 5 = .ok (.invokevirtual 68, 3) := by decide +kernel
theorem dX4_tellNearest_8 : decode cX4_tellNearest 8 = .ok (.istore_n 2, 1) := by decide +kernel
theorem dX4_tellNearest_9 : decode cX4_tellNearest 9 = .ok (.iload_n 2, 1) := by decide +kernel
theorem dX4_tellNearest_10 : decode cX4_tellNearest 10 = .ok (.iconst (-1), 1) := by decide +kernel
theorem dX4_tellNearest_11 : decode cX4_tellNearest 11 = .ok (.if_icmp .ne 13, 3) := by decide +kernel
theorem dX4_tellNearest_14 : decode cX4_tellNearest 14 = .ok (.aload_n 0, 1) := by decide +kernel
theorem dX4_tellNearest_15 : decode cX4_tellNearest 15 = .ok (.getfield 23, 3) := by decide +kernel
theorem dX4_tellNearest_18 : decode cX4_tellNearest 18 = .ok (.bipush 45, 2) := by decide +kernel
theorem dX4_tellNearest_20 : decode cX4_tellNearest 20 = .ok (.invokevirtual 71, 3) := by decide +kernel
theorem dX4_tellNearest_23 : decode cX4_tellNearest 23 = .ok (.return_, 1) := by decide +kernel
theorem dX4_tellNearest_24 : decode cX4_tellNearest 24 = .ok (.aload_n 0, 1) := by decide +kernel
theorem dX4_tellNearest_25 : decode cX4_tellNearest 25 = .ok (.getfield 23, 3) := by decide +kernel
theorem dX4_tellNearest_28 : decode cX4_tellNearest 28 = .ok (.iload_n 2, 1) := by decide +kernel
theorem dX4_tellNearest_29 : decode cX4_tellNearest 29 = .ok (.invokevirtual 33, 3) := by decide +kernel
theorem dX4_tellNearest_32 : decode cX4_tellNearest 32 = .ok (.aload_n 0, 1) := by decide +kernel
theorem dX4_tellNearest_33 : decode cX4_tellNearest 33 = .ok (.getfield 23, 3) := by decide +kernel
theorem dX4_tellNearest_36 : decode cX4_tellNearest 36 = .ok (.bipush 64, 2) := by decide +kernel
theorem dX4_tellNearest_38 : decode cX4_tellNearest 38 = .ok (.invokevirtual 71, 3) := by decide +kernel
theorem dX4_tellNearest_41 : decode cX4_tellNearest 41 = .ok (.aload_n 0, 1) := by decide +kernel
theorem dX4_tellNearest_42 : decode cX4_tellNearest 42 = .ok (.getfield 23, 3) := by decide +kernel
theorem dX4_tellNearest_45 : decode cX4_tellNearest 45 = .ok (.aload_n 0, 1) := by decide +kernel
theorem dX4_tellNearest_46 : decode cX4_tellNearest 46 = .ok (.getfield 9, 3) := by decide +kernel
theorem dX4_tellNearest_49 : decode cX4_tellNearest 49 = .ok (.iload_n 1, 1) := by decide +kernel
theorem dX4_tellNearest_50 : decode cX4_tellNearest 50 = .ok (.iload_n 2, 1) := by decide +kernel
theorem dX4_tellNearest_51 : decode cX4_tellNearest 51 = .ok (.invokevirtual 49, 3) := by decide +kernel
theorem dX4_tellNearest_54 : decode cX4_tellNearest 54 = .ok (.invokevirtual 33, 3) := by decide +kernel
theorem dX4_tellNearest_57 : decode cX4_tellNearest 57 = .ok (.return_, 1) := by decide +kernel
set_option maxRecDepth 20000 in
theorem ggX4_tellWay_X6_walk : GoodIn wsX4_tellWay wsX6_walk := goodIn_r _ [9, 10, 11, 12, 13, 14, 15, 16, 17, 18, 19, 36, 37, 38, 39, 40, 41, 42, 43, 44, 45] (by decide +kernel) (by decide +kernel)
set_option maxRecDepth 20000 in
theorem gX4_tellWay_X6_walk : GoodIn wsX4_tellWay (wsV RX4 74 RX6 yX6_walk wsX6_walk) := goodIn_app (goodIn_of _ (by decide +kernel)) ggX4_tellWay_X6_walk
set_option maxRecDepth 20000 in
theorem ggX4_tellWay_X2_put : GoodIn wsX4_tellWay wsX2_put := goodIn_r _ [24, 25, 26, 46, 47] (by decide +kernel) (by decide +kernel)
set_option maxRecDepth 20000 in
theorem gX4_tellWay_X2_put : GoodIn wsX4_tellWay (wsV RX4 71 RX2 yX2_put wsX2_put) := goodIn_app (goodIn_of _ (by decide +kernel)) ggX4_tellWay_X2_put
set_option maxRecDepth 20000 in
theorem ggX4_tellWay_X2_putNumber : GoodIn wsX4_tellWay wsX2_putNumber := goodIn_r _ [30, 31, 21, 22, 23, 24, 25, 26, 46, 47] (by decide +kernel) (by decide +kernel)
set_option maxRecDepth 20000 in
theorem gX4_tellWay_X2_putNumber : GoodIn wsX4_tellWay (wsV RX4 33 RX2 yX2_putNumber wsX2_putNumber) := goodIn_app (goodIn_of _ (by decide +kernel)) ggX4_tellWay_X2_putNumber
theorem dX4_tellWay_0 : decode cX4_tellWay 0 = .ok (.aload_n 0, 1) := by decide +kernel
theorem dX4_tellWay_1 : decode cX4_tellWay 1 = .ok (.getfield 15, 3) := by decide +kernel
theorem dX4_tellWay_4 : decode cX4_tellWay 4 = .ok (.iload_n 1, 1) := by decide +kernel
theorem dX4_tellWay_5 : decode cX4_tellWay 5 = .ok (.iload_n 2, 1) := by decide +kernel
theorem dX4_tellWay_6 : decode cX4_tellWay 6 = .ok (.invokevirtual 74, 3) := by decide +kernel
theorem dX4_tellWay_9 : decode cX4_tellWay 9 = .ok (.iconst 0, 1) := by decide +kernel
theorem dX4_tellWay_10 : decode cX4_tellWay 10 = .ok (.istore_n 3, 1) := by decide +kernel
theorem dX4_tellWay_11 : decode cX4_tellWay 11 = .ok (.iload_n 3, 1) := by decide +kernel
theorem dX4_tellWay_12 : decode cX4_tellWay 12 = .ok (.aload_n 0, 1) := by decide +kernel
theorem dX4_tellWay_13 : decode cX4_tellWay 13 = .ok (.getfield 15, 3) := by decide +kernel
theorem dX4_tellWay_16 : decode cX4_tellWay 16 = .ok (.getfield 79, 3) := by decide +kernel
theorem dX4_tellWay_19 : decode cX4_tellWay 19 = .ok (.if_icmp .ge 38, 3) := by decide +kernel
theorem dX4_tellWay_22 : decode cX4_tellWay 22 = .ok (.iload_n 3, 1) := by decide +kernel
theorem dX4_tellWay_23 : decode cX4_tellWay 23 = .ok (.ifCond .le 12, 3) := by decide +kernel
theorem dX4_tellWay_26 : decode cX4_tellWay 26 = .ok (.aload_n 0, 1) := by decide +kernel
theorem dX4_tellWay_27 : decode cX4_tellWay 27 = .ok (.getfield 23, 3) := by decide +kernel
theorem dX4_tellWay_30 : decode cX4_tellWay 30 = .ok (.bipush 62, 2) := by decide +kernel
theorem dX4_tellWay_32 : decode cX4_tellWay 32 = .ok (.invokevirtual 71, 3) := by decide +kernel
theorem dX4_tellWay_35 : decode cX4_tellWay 35 = .ok (.aload_n 0, 1) := by decide +kernel
theorem dX4_tellWay_36 : decode cX4_tellWay 36 = .ok (.getfield 23, 3) := by decide +kernel
theorem dX4_tellWay_39 : decode cX4_tellWay 39 = .ok (.aload_n 0, 1) := by decide +kernel
theorem dX4_tellWay_40 : decode cX4_tellWay 40 = .ok (.getfield 15, 3) := by decide +kernel
theorem dX4_tellWay_43 : decode cX4_tellWay 43 = .ok (.getfield 83, 3) := by decide +kernel
theorem dX4_tellWay_46 : decode cX4_tellWay 46 = .ok (.iload_n 3, 1) := by decide +kernel
theorem dX4_tellWay_47 : decode cX4_tellWay 47 = .ok (.iaload, 1) := by decide +kernel
theorem dX4_tellWay_48 : decode cX4_tellWay 48 = .ok (.invokevirtual 33, 3) := by decide +kernel
theorem dX4_tellWay_51 : decode cX4_tellWay 51 = .ok (.iinc 3 1, 3) := by decide +kernel
theorem dX4_tellWay_54 : decode cX4_tellWay 54 = .ok (.goto (-43), 3) := by decide +kernel
theorem dX4_tellWay_57 : decode cX4_tellWay 57 = .ok (.return_, 1) := by decide +kernel
set_option maxRecDepth 20000 in
theorem ggX4_tellAll_X2_put : GoodIn wsX4_tellAll wsX2_put := goodIn_r _ [10, 11, 12, 28, 29] (by decide +kernel) (by decide +kernel)
set_option maxRecDepth 20000 in
theorem gX4_tellAll_X2_put : GoodIn wsX4_tellAll (wsV RX4 71 RX2 yX2_put wsX2_put) := goodIn_app (goodIn_of _ (by decide +kernel)) ggX4_tellAll_X2_put
set_option maxRecDepth 20000 in
theorem ggX4_tellAll_X2_putNumber : GoodIn wsX4_tellAll wsX2_putNumber := goodIn_r _ [16, 17, 7, 8, 9, 10, 11, 12, 28, 29] (by decide +kernel) (by decide +kernel)
set_option maxRecDepth 20000 in
theorem gX4_tellAll_X2_putNumber : GoodIn wsX4_tellAll (wsV RX4 33 RX2 yX2_putNumber wsX2_putNumber) := goodIn_app (goodIn_of _ (by decide +kernel)) ggX4_tellAll_X2_putNumber
theorem dX4_tellAll_0 : decode cX4_tellAll 0 = .ok (.aload_n 0, 1) := by decide +kernel
theorem dX4_tellAll_1 : decode cX4_tellAll 1 = .ok (.getfield 9, 3) := by decide +kernel
theorem dX4_tellAll_4 : decode cX4_tellAll 4 = .ok (.getfield 87, 3) := by decide +kernel
theorem dX4_tellAll_7 : decode cX4_tellAll 7 = .ok (.ifCond .ne 12, 3) := by decide +kernel
theorem dX4_tellAll_10 : decode cX4_tellAll 10 = .ok (.aload_n 0, 1) := by decide +kernel
theorem dX4_tellAll_11 : decode cX4_tellAll 11 = .ok (.getfield 23, 3) := by decide +kernel
theorem dX4_tellAll_14 : decode cX4_tellAll 14 = .ok (.bipush 45, 2) := by decide +kernel
theorem dX4_tellAll_16 : decode cX4_tellAll 16 = .ok (.invokevirtual 71, 3) := by decide +kernel
theorem dX4_tellAll_19 : decode cX4_tellAll 19 = .ok (.iconst 0, 1) := by decide +kernel
theorem dX4_tellAll_20 : decode cX4_tellAll 20 = .ok (.istore_n 1, 1) := by decide +kernel
theorem dX4_tellAll_21 : decode cX4_tellAll 21 = .ok (.iconst 0, 1) := by decide +kernel
theorem dX4_tellAll_22 : decode cX4_tellAll 22 = .ok (.istore_n 2, 1) := by decide +kernel
theorem dX4_tellAll_23 : decode cX4_tellAll 23 = .ok (.iload_n 2, 1) := by decide +kernel
theorem dX4_tellAll_24 : decode cX4_tellAll 24 = .ok (.aload_n 0, 1) := by decide +kernel
theorem dX4_tellAll_25 : decode cX4_tellAll 25 = .ok (.getfield 9, 3) := by decide +kernel
theorem dX4_tellAll_28 : decode cX4_tellAll 28 = .ok (.getfield 90, 3) := by decide +kernel
theorem dX4_tellAll_31 : decode cX4_tellAll 31 = .ok (.if_icmp .ge 45, 3) := by decide +kernel
theorem dX4_tellAll_34 : decode cX4_tellAll 34 = .ok (.aload_n 0, 1) := by decide +kernel
theorem dX4_tellAll_35 : decode cX4_tellAll 35 = .ok (.getfield 9, 3) := by decide +kernel
theorem dX4_tellAll_38 : decode cX4_tellAll 38 = .ok (.getfield 93, 3) := by decide +kernel
theorem dX4_tellAll_41 : decode cX4_tellAll 41 = .ok (.iload_n 2, 1) := by decide +kernel
theorem dX4_tellAll_42 : decode cX4_tellAll 42 = .ok (.baload, 1) := by decide +kernel
theorem dX4_tellAll_43 : decode cX4_tellAll 43 = .ok (.ifCond .eq 27, 3) := by decide +kernel
theorem dX4_tellAll_46 : decode cX4_tellAll 46 = .ok (.iload_n 1, 1) := by decide +kernel
theorem dX4_tellAll_47 : decode cX4_tellAll 47 = .ok (.ifCond .le 12, 3) := by decide +kernel
theorem dX4_tellAll_50 : decode cX4_tellAll 50 = .ok (.aload_n 0, 1) := by decide +kernel
theorem dX4_tellAll_51 : decode cX4_tellAll 51 = .ok (.getfield 23, 3) := by decide +kernel
theorem dX4_tellAll_54 : decode cX4_tellAll 54 = .ok (.bipush 44, 2) := by decide +kernel
theorem dX4_tellAll_56 : decode cX4_tellAll 56 = .ok (.invokevirtual 71, 3) := by decide +kernel
theorem dX4_tellAll_59 : decode cX4_tellAll 59 = .ok (.aload_n 0, 1) := by decide +kernel
theorem dX4_tellAll_60 : decode cX4_tellAll 60 = .ok (.getfield 23, 3) := by decide +kernel
theorem dX4_tellAll_63 : decode cX4_tellAll 63 = .ok (.iload_n 2, 1) := by decide +kernel
theorem dX4_tellAll_64 : decode cX4_tellAll 64 = .ok (.invokevirtual 33, 3) := by decide +kernel
theorem dX4_tellAll_67 : decode cX4_tellAll 67 = .ok (.iinc 1 1, 3) := by decide +kernel
theorem dX4_tellAll_70 : decode cX4_tellAll 70 = .ok (.iinc 2 1, 3) := by decide +kernel
theorem dX4_tellAll_73 : decode cX4_tellAll 73 = .ok (.goto (-50), 3) := by decide +kernel
theorem dX4_tellAll_76 : decode cX4_tellAll 76 = .ok (.return_, 1) := by decide +kernel
theorem dX5_init_0 : decode cX5_init 0 = .ok (.aload_n 0, 1) := by decide +kernel
theorem dX5_init_1 : decode cX5_init 1 = .ok (.invokespecial 3, 3) := by decide +kernel
theorem dX5_init_4 : decode cX5_init 4 = .ok (.aload_n 0, 1) := by decide +kernel
theorem dX5_init_5 : decode cX5_init 5 = .ok (.bipush 120, 2) := by decide +kernel
theorem dX5_init_7 : decode cX5_init 7 = .ok (.newarray .byte, 2) := by decide +kernel
theorem dX5_init_9 : decode cX5_init 9 = .ok (.putfield 9, 3) := by decide +kernel
theorem dX5_init_12 : decode cX5_init 12 = .ok (.aload_n 0, 1) := by decide +kernel
theorem dX5_init_13 : decode cX5_init 13 = .ok (.iconst 0, 1) := by decide +kernel
theorem dX5_init_14 : decode cX5_init 14 = .ok (.putfield 15, 3) := by decide +kernel
theorem dX5_init_17 : decode cX5_init 17 = .ok (.return_, 1) := by decide +kernel
theorem dX5_put_0 : decode cX5_put 0 = .ok (.aload_n 0, 1) := by decide +kernel
theorem dX5_put_1 : decode cX5_put 1 = .ok (.getfield 15, 3) := by decide +kernel
theorem dX5_put_4 : decode cX5_put 4 = .ok (.bipush 120, 2) := by decide +kernel
theorem dX5_put_6 : decode cX5_put 6 = .ok (.if_icmp .ge 24, 3) := by decide +kernel
theorem dX5_put_9 : decode cX5_put 9 = .ok (.aload_n 0, 1) := by decide +kernel
theorem dX5_put_10 : decode cX5_put 10 = .ok (.getfield 9, 3) := by decide +kernel
theorem dX5_put_13 : decode cX5_put 13 = .ok (.aload_n 0, 1) := by decide +kernel
theorem dX5_put_14 : decode cX5_put 14 = .ok (.getfield 15, 3) := by decide +kernel
theorem dX5_put_17 : decode cX5_put 17 = .ok (.iload_n 1, 1) := by decide +kernel
theorem dX5_put_18 : decode cX5_put 18 = .ok (.i2b, 1) := by decide +kernel
theorem dX5_put_19 : decode cX5_put 19 = .ok (.bastore, 1) := by decide +kernel
theorem dX5_put_20 : decode cX5_put 20 = .ok (.aload_n 0, 1) := by decide +kernel
theorem dX5_put_21 : decode cX5_put 21 = .ok (.dup, 1) := by decide +kernel
theorem dX5_put_22 : decode cX5_put 22 = .ok (.getfield 15, 3) := by decide +kernel
theorem dX5_put_25 : decode cX5_put 25 = .ok (.iconst 1, 1) := by decide +kernel
theorem dX5_put_26 : decode cX5_put 26 = .ok (.iadd, 1) := by decide +kernel
theorem dX5_put_27 : decode cX5_put 27 = .ok (.putfield 15, 3) := by decide +kernel
theorem dX5_put_30 : decode cX5_put 30 = .ok (.aload_n 0, 1) := by decide +kernel
theorem dX5_put_31 : decode cX5_put 31 = .ok (.getfield 15, 3) := by decide +kernel
theorem dX5_put_34 : decode cX5_put 34 = .ok (.ireturn, 1) := by decide +kernel
theorem dX5_empty_0 : decode cX5_empty 0 = .ok (.aload_n 0, 1) := by decide +kernel
theorem dX5_empty_1 : decode cX5_empty 1 = .ok (.getfield 15, 3) := by decide +kernel
theorem dX5_empty_4 : decode cX5_empty 4 = .ok (.istore_n 1, 1) := by decide +kernel
theorem dX5_empty_5 : decode cX5_empty 5 = .ok (.aload_n 0, 1) := by decide +kernel
theorem dX5_empty_6 : decode cX5_empty 6 = .ok (.iconst 0, 1) := by decide +kernel
theorem dX5_empty_7 : decode cX5_empty 7 = .ok (.putfield 15, 3) := by decide +kernel
theorem dX5_empty_10 : decode cX5_empty 10 = .ok (.iload_n 1, 1) := by decide +kernel
theorem dX5_empty_11 : decode cX5_empty 11 = .ok (.ireturn, 1) := by decide +kernel
theorem dX5_byteAt_0 : decode cX5_byteAt 0 = .ok (.iload_n 1, 1) := by decide +kernel
theorem dX5_byteAt_1 : decode cX5_byteAt 1 = .ok (.ifCond .lt 20, 3) := by decide +kernel
theorem dX5_byteAt_4 : decode cX5_byteAt 4 = .ok (.iload_n 1, 1) := by decide +kernel
theorem dX5_byteAt_5 : decode cX5_byteAt 5 = .ok (.aload_n 0, 1) := by decide +kernel
theorem dX5_byteAt_6 : decode cX5_byteAt 6 = .ok (.getfield 15, 3) := by decide +kernel
theorem dX5_byteAt_9 : decode cX5_byteAt 9 = .ok (.if_icmp .ge 12, 3) := by decide +kernel
theorem dX5_byteAt_12 : decode cX5_byteAt 12 = .ok (.aload_n 0, 1) := by decide +kernel
theorem dX5_byteAt_13 : decode cX5_byteAt 13 = .ok (.getfield 9, 3) := by decide +kernel
theorem dX5_byteAt_16 : decode cX5_byteAt 16 = .ok (.iload_n 1, 1) := by decide +kernel
theorem dX5_byteAt_17 : decode cX5_byteAt 17 = .ok (.baload, 1) := by decide +kernel
theorem dX5_byteAt_18 : decode cX5_byteAt 18 = .ok (.goto 4, 3) := by decide +kernel
theorem dX5_byteAt_21 : decode cX5_byteAt 21 = .ok (.iconst (-1), 1) := by decide +kernel
theorem dX5_byteAt_22 : decode cX5_byteAt 22 = .ok (.ireturn, 1) := by decide +kernel
set_option maxRecDepth 20000 in
theorem ggX5_isLetter_X5_byteAt : GoodIn wsX5_isLetter wsX5_byteAt := goodIn_r _ [5, 6, 7, 8, 9] (by decide +kernel) (by decide +kernel)
set_option maxRecDepth 20000 in
theorem gX5_isLetter_X5_byteAt : GoodIn wsX5_isLetter (wsV RX5 19 RX5 yX5_byteAt wsX5_byteAt) := goodIn_app (goodIn_of _ (by decide +kernel)) ggX5_isLetter_X5_byteAt
theorem dX5_isLetter_0 : decode cX5_isLetter 0 = .ok (.aload_n 0, 1) := by decide +kernel
theorem dX5_isLetter_1 : decode cX5_isLetter 1 = .ok (.iload_n 1, 1) := by decide +kernel
theorem dX5_isLetter_2 : decode cX5_isLetter 2 = .ok (.invokevirtual 19, 3) := by decide +kernel
theorem dX5_isLetter_5 : decode cX5_isLetter 5 = .ok (.istore_n 2, 1) := by decide +kernel
theorem dX5_isLetter_6 : decode cX5_isLetter 6 = .ok (.iload_n 2, 1) := by decide +kernel
theorem dX5_isLetter_7 : decode cX5_isLetter 7 = .ok (.bipush 97, 2) := by decide +kernel
theorem dX5_isLetter_9 : decode cX5_isLetter 9 = .ok (.if_icmp .lt 13, 3) := by decide +kernel
theorem dX5_isLetter_12 : decode cX5_isLetter 12 = .ok (.iload_n 2, 1) := by decide +kernel
theorem dX5_isLetter_13 : decode cX5_isLetter 13 = .ok (.bipush 122, 2) := by decide +kernel
theorem dX5_isLetter_15 : decode cX5_isLetter 15 = .ok (.if_icmp .gt 7, 3) := by decide +kernel
theorem dX5_isLetter_18 : decode cX5_isLetter 18 = .ok (.iconst 1, 1) := by decide +kernel
theorem dX5_isLetter_19 : decode cX5_isLetter 19 = .ok (.goto 4, 3) := by decide +kernel
theorem dX5_isLetter_22 : decode cX5_isLetter 22 = .ok (.iconst 0, 1) := by decide +kernel
theorem dX5_isLetter_23 : decode cX5_isLetter 23 = .ok (.ireturn, 1) := by decide +kernel
set_option maxRecDepth 20000 in
theorem ggX5_isFigure_X5_byteAt : GoodIn wsX5_isFigure wsX5_byteAt := goodIn_r _ [5, 6, 7, 8, 9] (by decide +kernel) (by decide +kernel)
set_option maxRecDepth 20000 in
theorem gX5_isFigure_X5_byteAt : GoodIn wsX5_isFigure (wsV RX5 19 RX5 yX5_byteAt wsX5_byteAt) := goodIn_app (goodIn_of _ (by decide +kernel)) ggX5_isFigure_X5_byteAt
theorem dX5_isFigure_0 : decode cX5_isFigure 0 = .ok (.aload_n 0, 1) := by decide +kernel
theorem dX5_isFigure_1 : decode cX5_isFigure 1 = .ok (.iload_n 1, 1) := by decide +kernel
theorem dX5_isFigure_2 : decode cX5_isFigure 2 = .ok (.invokevirtual 19, 3) := by decide +kernel
theorem dX5_isFigure_5 : decode cX5_isFigure 5 = .ok (.istore_n 2, 1) := by decide +kernel
theorem dX5_isFigure_6 : decode cX5_isFigure 6 = .ok (.iload_n 2, 1) := by decide +kernel
theorem dX5_isFigure_7 : decode cX5_isFigure 7 = .ok (.bipush 48, 2) := by decide +kernel
theorem dX5_isFigure_9 : decode cX5_isFigure 9 = .ok (.if_icmp .lt 13, 3) := by decide +kernel
theorem dX5_isFigure_12 : decode cX5_isFigure 12 = .ok (.iload_n 2, 1) := by decide +kernel
theorem dX5_isFigure_13 : decode cX5_isFigure 13 = .ok (.bipush 57, 2) := by decide +kernel
theorem dX5_isFigure_15 : decode cX5_isFigure 15 = .ok (.if_icmp .gt 7, 3) := by decide +kernel
theorem dX5_isFigure_18 : decode cX5_isFigure 18 = .ok (.iconst 1, 1) := by decide +kernel
theorem dX5_isFigure_19 : decode cX5_isFigure 19 = .ok (.goto 4, 3) := by decide +kernel
theorem dX5_isFigure_22 : decode cX5_isFigure 22 = .ok (.iconst 0, 1) := by decide +kernel
theorem dX5_isFigure_23 : decode cX5_isFigure 23 = .ok (.ireturn, 1) := by decide +kernel
set_option maxRecDepth 20000 in
theorem ggX5_isWord_J0_length_8abf5 : GoodIn wsX5_isWord wsJ0_length_8abf5 := goodIn_r _ [5, 6, 7, 8, 9, 4, 10, 11, 12] (by decide +kernel) (by decide +kernel)
set_option maxRecDepth 20000 in
theorem gX5_isWord_J0_length_8abf5 : GoodIn wsX5_isWord (wsV RX5 23 RJ0 yJ0_length_8abf5 wsJ0_length_8abf5) := goodIn_app (goodIn_of _ (by decide +kernel)) ggX5_isWord_J0_length_8abf5
set_option maxRecDepth 20000 in
theorem ggX5_isWord_X5_byteAt : GoodIn wsX5_isWord wsX5_byteAt := goodIn_r _ [17, 18, 19, 57, 58] (by decide +kernel) (by decide +kernel)
set_option maxRecDepth 20000 in
theorem gX5_isWord_X5_byteAt : GoodIn wsX5_isWord (wsV RX5 19 RX5 yX5_byteAt wsX5_byteAt) := goodIn_app (goodIn_of _ (by decide +kernel)) ggX5_isWord_X5_byteAt
set_option maxRecDepth 20000 in
theorem ggX5_isWord_J0_charAt_5068e : GoodIn wsX5_isWord wsJ0_charAt_5068e := goodIn_r _ [23, 6, 24, 25, 26, 4, 27, 11, 12, 28, 29, 30, 31, 32, 33, 34, 35, 36, 37, 38, 39, 40, 41, 42, 43, 44, 45, 46, 47, 48, 49, 50, 51, 52, 53, 54, 55, 56] (by decide +kernel) (by decide +kernel)
set_option maxRecDepth 20000 in
theorem gX5_isWord_J0_charAt_5068e : GoodIn wsX5_isWord (wsV RX5 29 RJ0 yJ0_charAt_5068e wsJ0_charAt_5068e) := goodIn_app (goodIn_of _ (by decide +kernel)) ggX5_isWord_J0_charAt_5068e
theorem dX5_isWord_0 : decode cX5_isWord 0 = .ok (.iload_n 2, 1) := by decide +kernel
theorem dX5_isWord_1 : decode cX5_isWord 1 = .ok (.iload_n 1, 1) := by decide +kernel
theorem dX5_isWord_2 : decode cX5_isWord 2 = .ok (.isub, 1) := by decide +kernel
theorem dX5_isWord_3 : decode cX5_isWord 3 = .ok (.aload_n 3, 1) := by decide +kernel
theorem dX5_isWord_4 : decode cX5_isWord 4 = .ok (.invokevirtual 23, 3) := by decide +kernel
theorem dX5_isWord_7 : decode cX5_isWord 7 = .ok (.if_icmp .eq 5, 3) := by decide +kernel
theorem dX5_isWord_10 : decode cX5_isWord 10 = .ok (.iconst 0, 1) := by decide +kernel
theorem dX5_isWord_11 : decode cX5_isWord 11 = .ok (.ireturn, 1) := by decide +kernel
theorem dX5_isWord_12 : decode cX5_isWord 12 = .ok (.iconst 0, 1) := by decide +kernel
theorem dX5_isWord_13 : decode cX5_isWord 13 = .ok (.istore 4, 2) := by decide +kernel
theorem dX5_isWord_15 : decode cX5_isWord 15 = .ok (.iload 4, 2) := by decide +kernel
theorem dX5_isWord_17 : decode cX5_isWord 17 = .ok (.aload_n 3, 1) := by decide +kernel
theorem dX5_isWord_18 : decode cX5_isWord 18 = .ok (.invokevirtual 23, 3) := by decide +kernel
theorem dX5_isWord_21 : decode cX5_isWord 21 = .ok (.if_icmp .ge 28, 3) := by decide +kernel
theorem dX5_isWord_24 : decode cX5_isWord 24 = .ok (.aload_n 0, 1) := by decide +kernel
theorem dX5_isWord_25 : decode cX5_isWord 25 = .ok (.iload_n 1, 1) := by decide +kernel
theorem dX5_isWord_26 : decode cX5_isWord 26 = .ok (.iload 4, 2) := by decide +kernel
theorem dX5_isWord_28 : decode cX5_isWord 28 = .ok (.iadd, 1) := by decide +kernel
theorem dX5_isWord_29 : decode cX5_isWord 29 = .ok (.invokevirtual 19, 3) := by decide +kernel
theorem dX5_isWord_32 : decode cX5_isWord 32 = .ok (.aload_n 3, 1) := by decide +kernel
theorem dX5_isWord_33 : decode cX5_isWord 33 = .ok (.iload 4, 2) := by decide +kernel
theorem dX5_isWord_35 : decode cX5_isWord 35 = .ok (.invokevirtual 29, 3) := by decide +kernel
theorem dX5_isWord_38 : decode cX5_isWord 38 = .ok (.if_icmp .eq 5, 3) := by decide +kernel
theorem dX5_isWord_41 : decode cX5_isWord 41 = .ok (.iconst 0, 1) := by decide +kernel
theorem dX5_isWord_42 : decode cX5_isWord 42 = .ok (.ireturn, 1) := by decide +kernel
theorem dX5_isWord_43 : decode cX5_isWord 43 = .ok (.iinc 4 1, 3) := by decide +kernel
theorem dX5_isWord_46 : decode cX5_isWord 46 = .ok (.goto (-31), 3) := by decide +kernel
theorem dX5_isWord_49 : decode cX5_isWord 49 = .ok (.iconst 1, 1) := by decide +kernel
theorem dX5_isWord_50 : decode cX5_isWord 50 = .ok (.ireturn, 1) := by decide +kernel
theorem dX6_init_0 : decode cX6_init 0 = .ok (.aload_n 0, 1) := by decide +kernel
theorem dX6_init_1 : decode cX6_init 1 = .ok (.invokespecial 3, 3) := by decide +kernel
theorem dX6_init_4 : decode cX6_init 4 = .ok (.aload_n 0, 1) := by decide +kernel
theorem dX6_init_5 : decode cX6_init 5 = .ok (.bipush 60, 2) := by decide +kernel
theorem dX6_init_7 : decode cX6_init 7 = .ok (.newarray .int, 2) := by decide +kernel
theorem dX6_init_9 : decode cX6_init 9 = .ok (.putfield 9, 3) := by decide +kernel
theorem dX6_init_12 : decode cX6_init 12 = .ok (.aload_n 0, 1) := by decide +kernel
theorem dX6_init_13 : decode cX6_init 13 = .ok (.bipush 60, 2) := by decide +kernel
theorem dX6_init_15 : decode cX6_init 15 = .ok (.newarray .int, 2) := by decide +kernel
theorem dX6_init_17 : decode cX6_init 17 = .ok (.putfield 15, 3) := by decide +kernel
theorem dX6_init_20 : decode cX6_init 20 = .ok (.aload_n 0, 1) := by decide +kernel
theorem dX6_init_21 : decode cX6_init 21 = .ok (.aload_n 1, 1) := by decide +kernel
theorem dX6_init_22 : decode cX6_init 22 = .ok (.putfield 18, 3) := by decide +kernel
theorem dX6_init_25 : decode cX6_init 25 = .ok (.return_, 1) := by decide +kernel
set_option maxRecDepth 20000 in
theorem ggX6_walk_X1_has : GoodIn wsX6_walk wsX1_has := goodIn_r _ [9, 10, 15, 16, 17, 18, 19, 20] (by decide +kernel) (by decide +kernel)
set_option maxRecDepth 20000 in
theorem gX6_walk_X1_has : GoodIn wsX6_walk (wsV RX6 22 RX1 yX1_has wsX1_has) := goodIn_app (goodIn_of _ (by decide +kernel)) ggX6_walk_X1_has
theorem dX6_walk_0 : decode cX6_walk 0 = .ok (.iload_n 1, 1) := by decide +kernel
theorem dX6_walk_1 : decode cX6_walk 1 = .ok (.istore_n 3, 1) := by decide +kernel
theorem dX6_walk_2 : decode cX6_walk 2 = .ok (.iload_n 2, 1) := by decide +kernel
theorem dX6_walk_3 : decode cX6_walk 3 = .ok (.istore 4, 2) := by decide +kernel
theorem dX6_walk_5 : decode cX6_walk 5 = .ok (.iconst 0, 1) := by decide +kernel
theorem dX6_walk_6 : decode cX6_walk 6 = .ok (.istore 5, 2) := by decide +kernel
theorem dX6_walk_8 : decode cX6_walk 8 = .ok (.bipush 60, 2) := by decide +kernel
theorem dX6_walk_10 : decode cX6_walk 10 = .ok (.istore 6, 2) := by decide +kernel
theorem dX6_walk_12 : decode cX6_walk 12 = .ok (.iload_n 3, 1) := by decide +kernel
theorem dX6_walk_13 : decode cX6_walk 13 = .ok (.iload 4, 2) := by decide +kernel
theorem dX6_walk_15 : decode cX6_walk 15 = .ok (.if_icmp .eq 92, 3) := by decide +kernel
theorem dX6_walk_18 : decode cX6_walk 18 = .ok (.aload_n 0, 1) := by decide +kernel
theorem dX6_walk_19 : decode cX6_walk 19 = .ok (.getfield 18, 3) := by decide +kernel
theorem dX6_walk_22 : decode cX6_walk 22 = .ok (.iload_n 3, 1) := by decide +kernel
theorem dX6_walk_23 : decode cX6_walk 23 = .ok (.invokevirtual 22, 3) := by decide +kernel
theorem dX6_walk_26 : decode cX6_walk 26 = .ok (.ifCond .eq 81, 3) := by decide +kernel
theorem dX6_walk_29 : decode cX6_walk 29 = .ok (.aload_n 0, 1) := by decide +kernel
theorem dX6_walk_30 : decode cX6_walk 30 = .ok (.getfield 18, 3) := by decide +kernel
theorem dX6_walk_33 : decode cX6_walk 33 = .ok (.iload 4, 2) := by decide +kernel
theorem dX6_walk_35 : decode cX6_walk 35 = .ok (.invokevirtual 22, 3) := by decide +kernel
theorem dX6_walk_38 : decode cX6_walk 38 = .ok (.ifCond .eq 69, 3) := by decide +kernel
theorem dX6_walk_41 : decode cX6_walk 41 = .ok (.iload 5, 2) := by decide +kernel
theorem dX6_walk_43 : decode cX6_walk 43 = .ok (.iconst 1, 1) := by decide +kernel
theorem dX6_walk_44 : decode cX6_walk 44 = .ok (.iadd, 1) := by decide +kernel
theorem dX6_walk_45 : decode cX6_walk 45 = .ok (.iload 6, 2) := by decide +kernel
theorem dX6_walk_47 : decode cX6_walk 47 = .ok (.if_icmp .ge 60, 3) := by decide +kernel
theorem dX6_walk_50 : decode cX6_walk 50 = .ok (.iload_n 3, 1) := by decide +kernel
theorem dX6_walk_51 : decode cX6_walk 51 = .ok (.iload 4, 2) := by decide +kernel
theorem dX6_walk_53 : decode cX6_walk 53 = .ok (.if_icmp .le 27, 3) := by decide +kernel
theorem dX6_walk_56 : decode cX6_walk 56 = .ok (.aload_n 0, 1) := by decide +kernel
theorem dX6_walk_57 : decode cX6_walk 57 = .ok (.getfield 9, 3) := by decide +kernel
theorem dX6_walk_60 : decode cX6_walk 60 = .ok (.iload 5, 2) := by decide +kernel
theorem dX6_walk_62 : decode cX6_walk 62 = .ok (.iload_n 3, 1) := by decide +kernel
theorem dX6_walk_63 : decode cX6_walk 63 = .ok (.iastore, 1) := by decide +kernel
theorem dX6_walk_64 : decode cX6_walk 64 = .ok (.iinc 5 1, 3) := by decide +kernel
theorem dX6_walk_67 : decode cX6_walk 67 = .ok (.aload_n 0, 1) := by decide +kernel
theorem dX6_walk_68 : decode cX6_walk 68 = .ok (.getfield 18, 3) := by decide +kernel
theorem dX6_walk_71 : decode cX6_walk 71 = .ok (.getfield 28, 3) := by decide +kernel
theorem dX6_walk_74 : decode cX6_walk 74 = .ok (.iload_n 3, 1) := by decide +kernel
theorem dX6_walk_75 : decode cX6_walk 75 = .ok (.iaload, 1) := by decide +kernel
theorem dX6_walk_76 : decode cX6_walk 76 = .ok (.istore_n 3, 1) := by decide +kernel
theorem dX6_walk_77 : decode cX6_walk 77 = .ok (.goto (-65), 3) := by decide +kernel
theorem dX6_walk_80 : decode cX6_walk 80 = .ok (.iinc 6 (-1), 3) := by decide +kernel
theorem dX6_walk_83 : decode cX6_walk 83 = .ok (.aload_n 0, 1) := by decide +kernel
theorem dX6_walk_84 : decode cX6_walk 84 = .ok (.getfield 9, 3) := by decide +kernel
theorem dX6_walk_87 : decode cX6_walk 87 = .ok (.iload 6, 2) := by decide +kernel
theorem dX6_walk_89 : decode cX6_walk 89 = .ok (.iload 4, 2) := by decide +kernel
theorem dX6_walk_91 : decode cX6_walk 91 = .ok (.iastore, 1) := by decide +kernel
theorem dX6_walk_92 : decode cX6_walk 92 = .ok (.aload_n 0, 1) := by decide +kernel
theorem dX6_walk_93 : decode cX6_walk 93 = .ok (.getfield 18, 3) := by decide +kernel
theorem dX6_walk_96 : decode cX6_walk 96 = .ok (.getfield 28, 3) := by decide +kernel
theorem dX6_walk_99 : decode cX6_walk 99 = .ok (.iload 4, 2) := by decide +kernel
theorem dX6_walk_101 : decode cX6_walk 101 = .ok (.iaload, 1) := by decide +kernel
theorem dX6_walk_102 : decode cX6_walk 102 = .ok (.istore 4, 2) := by decide +kernel
theorem dX6_walk_104 : decode cX6_walk 104 = .ok (.goto (-92), 3) := by decide +kernel
theorem dX6_walk_107 : decode cX6_walk 107 = .ok (.aload_n 0, 1) := by decide +kernel
theorem dX6_walk_108 : decode cX6_walk 108 = .ok (.getfield 9, 3) := by decide +kernel
theorem dX6_walk_111 : decode cX6_walk 111 = .ok (.iload 5, 2) := by decide +kernel
theorem dX6_walk_113 : decode cX6_walk 113 = .ok (.iload_n 3, 1) := by decide +kernel
theorem dX6_walk_114 : decode cX6_walk 114 = .ok (.iastore, 1) := by decide +kernel
theorem dX6_walk_115 : decode cX6_walk 115 = .ok (.iinc 5 1, 3) := by decide +kernel
theorem dX6_walk_118 : decode cX6_walk 118 = .ok (.iload 6, 2) := by decide +kernel
theorem dX6_walk_120 : decode cX6_walk 120 = .ok (.istore 7, 2) := by decide +kernel
theorem dX6_walk_122 : decode cX6_walk 122 = .ok (.iload 7, 2) := by decide +kernel
theorem dX6_walk_124 : decode cX6_walk 124 = .ok (.bipush 60, 2) := by decide +kernel
theorem dX6_walk_126 : decode cX6_walk 126 = .ok (.if_icmp .ge 33, 3) := by decide +kernel
theorem dX6_walk_129 : decode cX6_walk 129 = .ok (.iload 5, 2) := by decide +kernel
theorem dX6_walk_131 : decode cX6_walk 131 = .ok (.iload 7, 2) := by decide +kernel
theorem dX6_walk_133 : decode cX6_walk 133 = .ok (.if_icmp .gt 26, 3) := by decide +kernel
theorem dX6_walk_136 : decode cX6_walk 136 = .ok (.aload_n 0, 1) := by decide +kernel
theorem dX6_walk_137 : decode cX6_walk 137 = .ok (.getfield 9, 3) := by decide +kernel
theorem dX6_walk_140 : decode cX6_walk 140 = .ok (.iload 5, 2) := by decide +kernel
theorem dX6_walk_142 : decode cX6_walk 142 = .ok (.aload_n 0, 1) := by decide +kernel
theorem dX6_walk_143 : decode cX6_walk 143 = .ok (.getfield 9, 3) := by decide +kernel
theorem dX6_walk_146 : decode cX6_walk 146 = .ok (.iload 7, 2) := by decide +kernel
theorem dX6_walk_148 : decode cX6_walk 148 = .ok (.iaload, 1) := by decide +kernel
theorem dX6_walk_149 : decode cX6_walk 149 = .ok (.iastore, 1) := by decide +kernel
theorem dX6_walk_150 : decode cX6_walk 150 = .ok (.iinc 5 1, 3) := by decide +kernel
theorem dX6_walk_153 : decode cX6_walk 153 = .ok (.iinc 7 1, 3) := by decide +kernel
theorem dX6_walk_156 : decode cX6_walk 156 = .ok (.goto (-34), 3) := by decide +kernel
theorem dX6_walk_159 : decode cX6_walk 159 = .ok (.aload_n 0, 1) := by decide +kernel
theorem dX6_walk_160 : decode cX6_walk 160 = .ok (.iload 5, 2) := by decide +kernel
theorem dX6_walk_162 : decode cX6_walk 162 = .ok (.putfield 31, 3) := by decide +kernel
theorem dX6_walk_165 : decode cX6_walk 165 = .ok (.return_, 1) := by decide +kernel
set_option maxRecDepth 20000 in
theorem ggX6_span_X1_gap : GoodIn wsX6_span wsX1_gap := goodIn_r _ [7, 8, 13, 14, 15, 16, 17, 18] (by decide +kernel) (by decide +kernel)
set_option maxRecDepth 20000 in
theorem gX6_span_X1_gap : GoodIn wsX6_span (wsV RX6 38 RX1 yX1_gap wsX1_gap) := goodIn_app (goodIn_of _ (by decide +kernel)) ggX6_span_X1_gap
theorem dX6_span_0 : decode cX6_span 0 = .ok (.iconst 0, 1) := by decide +kernel
theorem dX6_span_1 : decode cX6_span 1 = .ok (.istore_n 2, 1) := by decide +kernel
theorem dX6_span_2 : decode cX6_span 2 = .ok (.iconst 0, 1) := by decide +kernel
theorem dX6_span_3 : decode cX6_span 3 = .ok (.istore_n 3, 1) := by decide +kernel
theorem dX6_span_4 : decode cX6_span 4 = .ok (.iconst 0, 1) := by decide +kernel
theorem dX6_span_5 : decode cX6_span 5 = .ok (.istore 4, 2) := by decide +kernel
theorem dX6_span_7 : decode cX6_span 7 = .ok (.iconst 0, 1) := by decide +kernel
theorem dX6_span_8 : decode cX6_span 8 = .ok (.istore 5, 2) := by decide +kernel
theorem dX6_span_10 : decode cX6_span 10 = .ok (.iload 5, 2) := by decide +kernel
theorem dX6_span_12 : decode cX6_span 12 = .ok (.aload_n 0, 1) := by decide +kernel
theorem dX6_span_13 : decode cX6_span 13 = .ok (.getfield 18, 3) := by decide +kernel
theorem dX6_span_16 : decode cX6_span 16 = .ok (.getfield 35, 3) := by decide +kernel
theorem dX6_span_19 : decode cX6_span 19 = .ok (.if_icmp .ge 64, 3) := by decide +kernel
theorem dX6_span_22 : decode cX6_span 22 = .ok (.iconst 0, 1) := by decide +kernel
theorem dX6_span_23 : decode cX6_span 23 = .ok (.istore 6, 2) := by decide +kernel
theorem dX6_span_25 : decode cX6_span 25 = .ok (.iload 6, 2) := by decide +kernel
theorem dX6_span_27 : decode cX6_span 27 = .ok (.aload_n 0, 1) := by decide +kernel
theorem dX6_span_28 : decode cX6_span 28 = .ok (.getfield 18, 3) := by decide +kernel
theorem dX6_span_31 : decode cX6_span 31 = .ok (.getfield 35, 3) := by decide +kernel
theorem dX6_span_34 : decode cX6_span 34 = .ok (.if_icmp .ge 43, 3) := by decide +kernel
theorem dX6_span_37 : decode cX6_span 37 = .ok (.aload_n 0, 1) := by decide +kernel
theorem dX6_span_38 : decode cX6_span 38 = .ok (.getfield 18, 3) := by decide +kernel
theorem dX6_span_41 : decode cX6_span 41 = .ok (.iload 5, 2) := by decide +kernel
theorem dX6_span_43 : decode cX6_span 43 = .ok (.iload 6, 2) := by decide +kernel
theorem dX6_span_45 : decode cX6_span 45 = .ok (.invokevirtual 38, 3) := by decide +kernel
theorem dX6_span_48 : decode cX6_span 48 = .ok (.iload_n 2, 1) := by decide +kernel
theorem dX6_span_49 : decode cX6_span 49 = .ok (.if_icmp .le 22, 3) := by decide +kernel
theorem dX6_span_52 : decode cX6_span 52 = .ok (.aload_n 0, 1) := by decide +kernel
theorem dX6_span_53 : decode cX6_span 53 = .ok (.getfield 18, 3) := by decide +kernel
theorem dX6_span_56 : decode cX6_span 56 = .ok (.iload 5, 2) := by decide +kernel
theorem dX6_span_58 : decode cX6_span 58 = .ok (.iload 6, 2) := by decide +kernel
theorem dX6_span_60 : decode cX6_span 60 = .ok (.invokevirtual 38, 3) := by decide +kernel
theorem dX6_span_63 : decode cX6_span 63 = .ok (.istore_n 2, 1) := by decide +kernel
theorem dX6_span_64 : decode cX6_span 64 = .ok (.iload 5, 2) := by decide +kernel
theorem dX6_span_66 : decode cX6_span 66 = .ok (.istore_n 3, 1) := by decide +kernel
theorem dX6_span_67 : decode cX6_span 67 = .ok (.iload 6, 2) := by decide +kernel
theorem dX6_span_69 : decode cX6_span 69 = .ok (.istore 4, 2) := by decide +kernel
theorem dX6_span_71 : decode cX6_span 71 = .ok (.iinc 6 1, 3) := by decide +kernel
theorem dX6_span_74 : decode cX6_span 74 = .ok (.goto (-49), 3) := by decide +kernel
theorem dX6_span_77 : decode cX6_span 77 = .ok (.iinc 5 1, 3) := by decide +kernel
theorem dX6_span_80 : decode cX6_span 80 = .ok (.goto (-70), 3) := by decide +kernel
theorem dX6_span_83 : decode cX6_span 83 = .ok (.iload_n 1, 1) := by decide +kernel
theorem dX6_span_84 : decode cX6_span 84 = .ok (.ifCond .ne 7, 3) := by decide +kernel
theorem dX6_span_87 : decode cX6_span 87 = .ok (.iload_n 2, 1) := by decide +kernel
theorem dX6_span_88 : decode cX6_span 88 = .ok (.goto 14, 3) := by decide +kernel
theorem dX6_span_91 : decode cX6_span 91 = .ok (.iload_n 1, 1) := by decide +kernel
theorem dX6_span_92 : decode cX6_span 92 = .ok (.iconst 1, 1) := by decide +kernel
theorem dX6_span_93 : decode cX6_span 93 = .ok (.if_icmp .ne 7, 3) := by decide +kernel
theorem dX6_span_96 : decode cX6_span 96 = .ok (.iload_n 3, 1) := by decide +kernel
theorem dX6_span_97 : decode cX6_span 97 = .ok (.goto 5, 3) := by decide +kernel
theorem dX6_span_100 : decode cX6_span 100 = .ok (.iload 4, 2) := by decide +kernel
theorem dX6_span_102 : decode cX6_span 102 = .ok (.ireturn, 1) := by decide +kernel
set_option maxRecDepth 20000 in
theorem ggX6_heart_X6_weigh : GoodIn wsX6_heart wsX6_weigh := goodIn_r _ [7, 1, 2, 8, 9, 10, 11, 12, 13, 14, 15, 41, 42, 43, 44, 45, 46, 47, 48, 49, 50] (by decide +kernel) (by decide +kernel)
set_option maxRecDepth 20000 in
theorem gX6_heart_X6_weigh : GoodIn wsX6_heart (wsV RX6 42 RX6 yX6_weigh wsX6_weigh) := goodIn_app (goodIn_of _ (by decide +kernel)) ggX6_heart_X6_weigh
set_option maxRecDepth 20000 in
theorem ggX6_heart_X6_burden : GoodIn wsX6_heart wsX6_burden := goodIn_r _ [19, 20, 21, 22, 6, 23, 1, 2, 24, 25, 26, 27, 28, 29, 30, 13, 31, 32, 33, 34, 35, 36, 37, 38, 39, 40, 8, 9, 41, 42, 43, 44, 45, 46, 47, 48, 49, 50] (by decide +kernel) (by decide +kernel)
set_option maxRecDepth 20000 in
theorem gX6_heart_X6_burden : GoodIn wsX6_heart (wsV RX6 45 RX6 yX6_burden wsX6_burden) := goodIn_app (goodIn_of _ (by decide +kernel)) ggX6_heart_X6_burden
theorem dX6_heart_0 : decode cX6_heart 0 = .ok (.aload_n 0, 1) := by decide +kernel
theorem dX6_heart_1 : decode cX6_heart 1 = .ok (.invokevirtual 42, 3) := by decide +kernel
theorem dX6_heart_4 : decode cX6_heart 4 = .ok (.iconst 0, 1) := by decide +kernel
theorem dX6_heart_5 : decode cX6_heart 5 = .ok (.istore_n 2, 1) := by decide +kernel
theorem dX6_heart_6 : decode cX6_heart 6 = .ok (.aload_n 0, 1) := by decide +kernel
theorem dX6_heart_7 : decode cX6_heart 7 = .ok (.iconst 0, 1) := by decide +kernel
theorem dX6_heart_8 : decode cX6_heart 8 = .ok (.iload_n 1, 1) := by decide +kernel
theorem dX6_heart_9 : decode cX6_heart 9 = .ok (.invokevirtual 45, 3) := by decide +kernel
theorem dX6_heart_12 : decode cX6_heart 12 = .ok (.istore_n 3, 1) := by decide +kernel
theorem dX6_heart_13 : decode cX6_heart 13 = .ok (.iconst 1, 1) := by decide +kernel
theorem dX6_heart_14 : decode cX6_heart 14 = .ok (.istore 4, 2) := by decide +kernel
theorem dX6_heart_16 : decode cX6_heart 16 = .ok (.iload 4, 2) := by decide +kernel
theorem dX6_heart_18 : decode cX6_heart 18 = .ok (.aload_n 0, 1) := by decide +kernel
theorem dX6_heart_19 : decode cX6_heart 19 = .ok (.getfield 18, 3) := by decide +kernel
theorem dX6_heart_22 : decode cX6_heart 22 = .ok (.getfield 35, 3) := by decide +kernel
theorem dX6_heart_25 : decode cX6_heart 25 = .ok (.if_icmp .ge 30, 3) := by decide +kernel
theorem dX6_heart_28 : decode cX6_heart 28 = .ok (.aload_n 0, 1) := by decide +kernel
theorem dX6_heart_29 : decode cX6_heart 29 = .ok (.iload 4, 2) := by decide +kernel
theorem dX6_heart_31 : decode cX6_heart 31 = .ok (.iload_n 1, 1) := by decide +kernel
theorem dX6_heart_32 : decode cX6_heart 32 = .ok (.invokevirtual 45, 3) := by decide +kernel
theorem dX6_heart_35 : decode cX6_heart 35 = .ok (.istore 5, 2) := by decide +kernel
theorem dX6_heart_37 : decode cX6_heart 37 = .ok (.iload 5, 2) := by decide +kernel
theorem dX6_heart_39 : decode cX6_heart 39 = .ok (.iload_n 3, 1) := by decide +kernel
theorem dX6_heart_40 : decode cX6_heart 40 = .ok (.if_icmp .ge 9, 3) := by decide +kernel
theorem dX6_heart_43 : decode cX6_heart 43 = .ok (.iload 5, 2) := by decide +kernel
theorem dX6_heart_45 : decode cX6_heart 45 = .ok (.istore_n 3, 1) := by decide +kernel
theorem dX6_heart_46 : decode cX6_heart 46 = .ok (.iload 4, 2) := by decide +kernel
theorem dX6_heart_48 : decode cX6_heart 48 = .ok (.istore_n 2, 1) := by decide +kernel
theorem dX6_heart_49 : decode cX6_heart 49 = .ok (.iinc 4 1, 3) := by decide +kernel
theorem dX6_heart_52 : decode cX6_heart 52 = .ok (.goto (-36), 3) := by decide +kernel
theorem dX6_heart_55 : decode cX6_heart 55 = .ok (.iload_n 2, 1) := by decide +kernel
theorem dX6_heart_56 : decode cX6_heart 56 = .ok (.ireturn, 1) := by decide +kernel
set_option maxRecDepth 20000 in
theorem ggX6_burden_X6_farthest : GoodIn wsX6_burden wsX6_farthest := goodIn_r _ [5, 6, 7, 8, 9, 10, 11, 12, 13, 14, 15, 16, 17, 28, 29, 30, 31, 32, 33, 34, 35, 36, 37] (by decide +kernel) (by decide +kernel)
set_option maxRecDepth 20000 in
theorem gX6_burden_X6_farthest : GoodIn wsX6_burden (wsV RX6 48 RX6 yX6_farthest wsX6_farthest) := goodIn_app (goodIn_of _ (by decide +kernel)) ggX6_burden_X6_farthest
set_option maxRecDepth 20000 in
theorem ggX6_burden_X6_distanceOfAll : GoodIn wsX6_burden wsX6_distanceOfAll := goodIn_r _ [21, 6, 7, 12, 13, 14, 15, 16, 17, 28, 29, 30, 31, 32, 33, 34, 35, 36, 37] (by decide +kernel) (by decide +kernel)
set_option maxRecDepth 20000 in
theorem gX6_burden_X6_distanceOfAll : GoodIn wsX6_burden (wsV RX6 52 RX6 yX6_distanceOfAll wsX6_distanceOfAll) := goodIn_app (goodIn_of _ (by decide +kernel)) ggX6_burden_X6_distanceOfAll
set_option maxRecDepth 20000 in
theorem ggX6_burden_X6_greatestRest : GoodIn wsX6_burden wsX6_greatestRest := goodIn_r _ [25, 6, 7, 26, 27, 8, 9, 10, 11, 28, 29, 30, 31, 32, 33, 34, 35, 36, 37] (by decide +kernel) (by decide +kernel)
set_option maxRecDepth 20000 in
theorem gX6_burden_X6_greatestRest : GoodIn wsX6_burden (wsV RX6 55 RX6 yX6_greatestRest wsX6_greatestRest) := goodIn_app (goodIn_of _ (by decide +kernel)) ggX6_burden_X6_greatestRest
theorem dX6_burden_0 : decode cX6_burden 0 = .ok (.iload_n 2, 1) := by decide +kernel
theorem dX6_burden_1 : decode cX6_burden 1 = .ok (.ifCond .ne 11, 3) := by decide +kernel
theorem dX6_burden_4 : decode cX6_burden 4 = .ok (.aload_n 0, 1) := by decide +kernel
theorem dX6_burden_5 : decode cX6_burden 5 = .ok (.iload_n 1, 1) := by decide +kernel
theorem dX6_burden_6 : decode cX6_burden 6 = .ok (.invokevirtual 48, 3) := by decide +kernel
theorem dX6_burden_9 : decode cX6_burden 9 = .ok (.goto 21, 3) := by decide +kernel
theorem dX6_burden_12 : decode cX6_burden 12 = .ok (.iload_n 2, 1) := by decide +kernel
theorem dX6_burden_13 : decode cX6_burden 13 = .ok (.iconst 1, 1) := by decide +kernel
theorem dX6_burden_14 : decode cX6_burden 14 = .ok (.if_icmp .ne 11, 3) := by decide +kernel
theorem dX6_burden_17 : decode cX6_burden 17 = .ok (.aload_n 0, 1) := by decide +kernel
theorem dX6_burden_18 : decode cX6_burden 18 = .ok (.iload_n 1, 1) := by decide +kernel
theorem dX6_burden_19 : decode cX6_burden 19 = .ok (.invokevirtual 52, 3) := by decide +kernel
theorem dX6_burden_22 : decode cX6_burden 22 = .ok (.goto 8, 3) := by decide +kernel
theorem dX6_burden_25 : decode cX6_burden 25 = .ok (.aload_n 0, 1) := by decide +kernel
theorem dX6_burden_26 : decode cX6_burden 26 = .ok (.iload_n 1, 1) := by decide +kernel
theorem dX6_burden_27 : decode cX6_burden 27 = .ok (.invokevirtual 55, 3) := by decide +kernel
theorem dX6_burden_30 : decode cX6_burden 30 = .ok (.ireturn, 1) := by decide +kernel
set_option maxRecDepth 20000 in
theorem ggX6_farthest_X1_gap : GoodIn wsX6_farthest wsX1_gap := goodIn_r _ [11, 12, 17, 18, 19, 20, 21, 22] (by decide +kernel) (by decide +kernel)
set_option maxRecDepth 20000 in
theorem gX6_farthest_X1_gap : GoodIn wsX6_farthest (wsV RX6 38 RX1 yX1_gap wsX1_gap) := goodIn_app (goodIn_of _ (by decide +kernel)) ggX6_farthest_X1_gap
theorem dX6_farthest_0 : decode cX6_farthest 0 = .ok (.iconst 0, 1) := by decide +kernel
theorem dX6_farthest_1 : decode cX6_farthest 1 = .ok (.istore_n 2, 1) := by decide +kernel
theorem dX6_farthest_2 : decode cX6_farthest 2 = .ok (.iconst 0, 1) := by decide +kernel
theorem dX6_farthest_3 : decode cX6_farthest 3 = .ok (.istore_n 3, 1) := by decide +kernel
theorem dX6_farthest_4 : decode cX6_farthest 4 = .ok (.iload_n 3, 1) := by decide +kernel
theorem dX6_farthest_5 : decode cX6_farthest 5 = .ok (.aload_n 0, 1) := by decide +kernel
theorem dX6_farthest_6 : decode cX6_farthest 6 = .ok (.getfield 18, 3) := by decide +kernel
theorem dX6_farthest_9 : decode cX6_farthest 9 = .ok (.getfield 35, 3) := by decide +kernel
theorem dX6_farthest_12 : decode cX6_farthest 12 = .ok (.if_icmp .ge 23, 3) := by decide +kernel
theorem dX6_farthest_15 : decode cX6_farthest 15 = .ok (.iload_n 2, 1) := by decide +kernel
theorem dX6_farthest_16 : decode cX6_farthest 16 = .ok (.aload_n 0, 1) := by decide +kernel
theorem dX6_farthest_17 : decode cX6_farthest 17 = .ok (.getfield 18, 3) := by decide +kernel
theorem dX6_farthest_20 : decode cX6_farthest 20 = .ok (.iload_n 1, 1) := by decide +kernel
theorem dX6_farthest_21 : decode cX6_farthest 21 = .ok (.iload_n 3, 1) := by decide +kernel
theorem dX6_farthest_22 : decode cX6_farthest 22 = .ok (.invokevirtual 38, 3) := by decide +kernel
theorem dX6_farthest_25 : decode cX6_farthest 25 = .ok (.invokestatic 58, 3) := by decide +kernel
theorem dX6_farthest_28 : decode cX6_farthest 28 = .ok (.istore_n 2, 1) := by decide +kernel
theorem dX6_farthest_29 : decode cX6_farthest 29 = .ok (.iinc 3 1, 3) := by decide +kernel
theorem dX6_farthest_32 : decode cX6_farthest 32 = .ok (.goto (-28), 3) := by decide +kernel
theorem dX6_farthest_35 : decode cX6_farthest 35 = .ok (.iload_n 2, 1) := by decide +kernel
theorem dX6_farthest_36 : decode cX6_farthest 36 = .ok (.ireturn, 1) := by decide +kernel
set_option maxRecDepth 20000 in
theorem ggX6_distanceOfAll_X1_gap : GoodIn wsX6_distanceOfAll wsX1_gap := goodIn_r _ [7, 8, 13, 14, 15, 16, 17, 18] (by decide +kernel) (by decide +kernel)
set_option maxRecDepth 20000 in
theorem gX6_distanceOfAll_X1_gap : GoodIn wsX6_distanceOfAll (wsV RX6 38 RX1 yX1_gap wsX1_gap) := goodIn_app (goodIn_of _ (by decide +kernel)) ggX6_distanceOfAll_X1_gap
theorem dX6_distanceOfAll_0 : decode cX6_distanceOfAll 0 = .ok (.iconst 0, 1) := by decide +kernel
theorem dX6_distanceOfAll_1 : decode cX6_distanceOfAll 1 = .ok (.istore_n 2, 1) := by decide +kernel
theorem dX6_distanceOfAll_2 : decode cX6_distanceOfAll 2 = .ok (.iconst 0, 1) := by decide +kernel
theorem dX6_distanceOfAll_3 : decode cX6_distanceOfAll 3 = .ok (.istore_n 3, 1) := by decide +kernel
theorem dX6_distanceOfAll_4 : decode cX6_distanceOfAll 4 = .ok (.iload_n 3, 1) := by decide +kernel
theorem dX6_distanceOfAll_5 : decode cX6_distanceOfAll 5 = .ok (.aload_n 0, 1) := by decide +kernel
theorem dX6_distanceOfAll_6 : decode cX6_distanceOfAll 6 = .ok (.getfield 18, 3) := by decide +kernel
theorem dX6_distanceOfAll_9 : decode cX6_distanceOfAll 9 = .ok (.getfield 35, 3) := by decide +kernel
theorem dX6_distanceOfAll_12 : decode cX6_distanceOfAll 12 = .ok (.if_icmp .ge 21, 3) := by decide +kernel
theorem dX6_distanceOfAll_15 : decode cX6_distanceOfAll 15 = .ok (.iload_n 2, 1) := by decide +kernel
theorem dX6_distanceOfAll_16 : decode cX6_distanceOfAll 16 = .ok (.aload_n 0, 1) := by decide +kernel
theorem dX6_distanceOfAll_17 : decode cX6_distanceOfAll 17 = .ok (.getfield 18, 3) := by decide +kernel
theorem dX6_distanceOfAll_20 : decode cX6_distanceOfAll 20 = .ok (.iload_n 1, 1) := by decide +kernel
theorem dX6_distanceOfAll_21 : decode cX6_distanceOfAll 21 = .ok (.iload_n 3, 1) := by decide +kernel
theorem dX6_distanceOfAll_22 : decode cX6_distanceOfAll 22 = .ok (.invokevirtual 38, 3) := by decide +kernel
theorem dX6_distanceOfAll_25 : decode cX6_distanceOfAll 25 = .ok (.iadd, 1) := by decide +kernel
theorem dX6_distanceOfAll_26 : decode cX6_distanceOfAll 26 = .ok (.istore_n 2, 1) := by decide +kernel
theorem dX6_distanceOfAll_27 : decode cX6_distanceOfAll 27 = .ok (.iinc 3 1, 3) := by decide +kernel
theorem dX6_distanceOfAll_30 : decode cX6_distanceOfAll 30 = .ok (.goto (-26), 3) := by decide +kernel
theorem dX6_distanceOfAll_33 : decode cX6_distanceOfAll 33 = .ok (.iload_n 2, 1) := by decide +kernel
theorem dX6_distanceOfAll_34 : decode cX6_distanceOfAll 34 = .ok (.ireturn, 1) := by decide +kernel
theorem dX6_greatestRest_0 : decode cX6_greatestRest 0 = .ok (.aload_n 0, 1) := by decide +kernel
theorem dX6_greatestRest_1 : decode cX6_greatestRest 1 = .ok (.getfield 18, 3) := by decide +kernel
theorem dX6_greatestRest_4 : decode cX6_greatestRest 4 = .ok (.getfield 35, 3) := by decide +kernel
theorem dX6_greatestRest_7 : decode cX6_greatestRest 7 = .ok (.aload_n 0, 1) := by decide +kernel
theorem dX6_greatestRest_8 : decode cX6_greatestRest 8 = .ok (.getfield 15, 3) := by decide +kernel
theorem dX6_greatestRest_11 : decode cX6_greatestRest 11 = .ok (.iload_n 1, 1) := by decide +kernel
theorem dX6_greatestRest_12 : decode cX6_greatestRest 12 = .ok (.iaload, 1) := by decide +kernel
theorem dX6_greatestRest_13 : decode cX6_greatestRest 13 = .ok (.isub, 1) := by decide +kernel
theorem dX6_greatestRest_14 : decode cX6_greatestRest 14 = .ok (.istore_n 2, 1) := by decide +kernel
theorem dX6_greatestRest_15 : decode cX6_greatestRest 15 = .ok (.iconst 1, 1) := by decide +kernel
theorem dX6_greatestRest_16 : decode cX6_greatestRest 16 = .ok (.istore_n 3, 1) := by decide +kernel
theorem dX6_greatestRest_17 : decode cX6_greatestRest 17 = .ok (.iload_n 3, 1) := by decide +kernel
theorem dX6_greatestRest_18 : decode cX6_greatestRest 18 = .ok (.aload_n 0, 1) := by decide +kernel
theorem dX6_greatestRest_19 : decode cX6_greatestRest 19 = .ok (.getfield 18, 3) := by decide +kernel
theorem dX6_greatestRest_22 : decode cX6_greatestRest 22 = .ok (.getfield 35, 3) := by decide +kernel
theorem dX6_greatestRest_25 : decode cX6_greatestRest 25 = .ok (.if_icmp .ge 33, 3) := by decide +kernel
theorem dX6_greatestRest_28 : decode cX6_greatestRest 28 = .ok (.aload_n 0, 1) := by decide +kernel
theorem dX6_greatestRest_29 : decode cX6_greatestRest 29 = .ok (.getfield 18, 3) := by decide +kernel
theorem dX6_greatestRest_32 : decode cX6_greatestRest 32 = .ok (.getfield 28, 3) := by decide +kernel
theorem dX6_greatestRest_35 : decode cX6_greatestRest 35 = .ok (.iload_n 3, 1) := by decide +kernel
theorem dX6_greatestRest_36 : decode cX6_greatestRest 36 = .ok (.iaload, 1) := by decide +kernel
theorem dX6_greatestRest_37 : decode cX6_greatestRest 37 = .ok (.iload_n 1, 1) := by decide +kernel
theorem dX6_greatestRest_38 : decode cX6_greatestRest 38 = .ok (.if_icmp .ne 14, 3) := by decide +kernel
theorem dX6_greatestRest_41 : decode cX6_greatestRest 41 = .ok (.iload_n 2, 1) := by decide +kernel
theorem dX6_greatestRest_42 : decode cX6_greatestRest 42 = .ok (.aload_n 0, 1) := by decide +kernel
theorem dX6_greatestRest_43 : decode cX6_greatestRest 43 = .ok (.getfield 15, 3) := by decide +kernel
theorem dX6_greatestRest_46 : decode cX6_greatestRest 46 = .ok (.iload_n 3, 1) := by decide +kernel
theorem dX6_greatestRest_47 : decode cX6_greatestRest 47 = .ok (.iaload, 1) := by decide +kernel
theorem dX6_greatestRest_48 : decode cX6_greatestRest 48 = .ok (.invokestatic 58, 3) := by decide +kernel
theorem dX6_greatestRest_51 : decode cX6_greatestRest 51 = .ok (.istore_n 2, 1) := by decide +kernel
theorem dX6_greatestRest_52 : decode cX6_greatestRest 52 = .ok (.iinc 3 1, 3) := by decide +kernel
theorem dX6_greatestRest_55 : decode cX6_greatestRest 55 = .ok (.goto (-38), 3) := by decide +kernel
theorem dX6_greatestRest_58 : decode cX6_greatestRest 58 = .ok (.iload_n 2, 1) := by decide +kernel
theorem dX6_greatestRest_59 : decode cX6_greatestRest 59 = .ok (.ireturn, 1) := by decide +kernel
set_option maxRecDepth 20000 in
theorem ggX6_weigh_X1_has : GoodIn wsX6_weigh wsX1_has := goodIn_r _ [9, 10, 15, 16, 17, 18, 19, 20] (by decide +kernel) (by decide +kernel)
set_option maxRecDepth 20000 in
theorem gX6_weigh_X1_has : GoodIn wsX6_weigh (wsV RX6 22 RX1 yX1_has wsX1_has) := goodIn_app (goodIn_of _ (by decide +kernel)) ggX6_weigh_X1_has
theorem dX6_weigh_0 : decode cX6_weigh 0 = .ok (.iconst 0, 1) := by decide +kernel
theorem dX6_weigh_1 : decode cX6_weigh 1 = .ok (.istore_n 1, 1) := by decide +kernel
theorem dX6_weigh_2 : decode cX6_weigh 2 = .ok (.iload_n 1, 1) := by decide +kernel
theorem dX6_weigh_3 : decode cX6_weigh 3 = .ok (.aload_n 0, 1) := by decide +kernel
theorem dX6_weigh_4 : decode cX6_weigh 4 = .ok (.getfield 18, 3) := by decide +kernel
theorem dX6_weigh_7 : decode cX6_weigh 7 = .ok (.getfield 35, 3) := by decide +kernel
theorem dX6_weigh_10 : decode cX6_weigh 10 = .ok (.if_icmp .ge 16, 3) := by decide +kernel
theorem dX6_weigh_13 : decode cX6_weigh 13 = .ok (.aload_n 0, 1) := by decide +kernel
theorem dX6_weigh_14 : decode cX6_weigh 14 = .ok (.getfield 15, 3) := by decide +kernel
theorem dX6_weigh_17 : decode cX6_weigh 17 = .ok (.iload_n 1, 1) := by decide +kernel
theorem dX6_weigh_18 : decode cX6_weigh 18 = .ok (.iconst 1, 1) := by decide +kernel
theorem dX6_weigh_19 : decode cX6_weigh 19 = .ok (.iastore, 1) := by decide +kernel
theorem dX6_weigh_20 : decode cX6_weigh 20 = .ok (.iinc 1 1, 3) := by decide +kernel
theorem dX6_weigh_23 : decode cX6_weigh 23 = .ok (.goto (-21), 3) := by decide +kernel
theorem dX6_weigh_26 : decode cX6_weigh 26 = .ok (.aload_n 0, 1) := by decide +kernel
theorem dX6_weigh_27 : decode cX6_weigh 27 = .ok (.getfield 18, 3) := by decide +kernel
theorem dX6_weigh_30 : decode cX6_weigh 30 = .ok (.getfield 35, 3) := by decide +kernel
theorem dX6_weigh_33 : decode cX6_weigh 33 = .ok (.iconst 1, 1) := by decide +kernel
theorem dX6_weigh_34 : decode cX6_weigh 34 = .ok (.isub, 1) := by decide +kernel
theorem dX6_weigh_35 : decode cX6_weigh 35 = .ok (.istore_n 1, 1) := by decide +kernel
theorem dX6_weigh_36 : decode cX6_weigh 36 = .ok (.iload_n 1, 1) := by decide +kernel
theorem dX6_weigh_37 : decode cX6_weigh 37 = .ok (.ifCond .le 45, 3) := by decide +kernel
theorem dX6_weigh_40 : decode cX6_weigh 40 = .ok (.aload_n 0, 1) := by decide +kernel
theorem dX6_weigh_41 : decode cX6_weigh 41 = .ok (.getfield 18, 3) := by decide +kernel
theorem dX6_weigh_44 : decode cX6_weigh 44 = .ok (.getfield 28, 3) := by decide +kernel
theorem dX6_weigh_47 : decode cX6_weigh 47 = .ok (.iload_n 1, 1) := by decide +kernel
theorem dX6_weigh_48 : decode cX6_weigh 48 = .ok (.iaload, 1) := by decide +kernel
theorem dX6_weigh_49 : decode cX6_weigh 49 = .ok (.istore_n 2, 1) := by decide +kernel
theorem dX6_weigh_50 : decode cX6_weigh 50 = .ok (.aload_n 0, 1) := by decide +kernel
theorem dX6_weigh_51 : decode cX6_weigh 51 = .ok (.getfield 18, 3) := by decide +kernel
theorem dX6_weigh_54 : decode cX6_weigh 54 = .ok (.iload_n 2, 1) := by decide +kernel
theorem dX6_weigh_55 : decode cX6_weigh 55 = .ok (.invokevirtual 22, 3) := by decide +kernel
theorem dX6_weigh_58 : decode cX6_weigh 58 = .ok (.ifCond .eq 18, 3) := by decide +kernel
theorem dX6_weigh_61 : decode cX6_weigh 61 = .ok (.aload_n 0, 1) := by decide +kernel
theorem dX6_weigh_62 : decode cX6_weigh 62 = .ok (.getfield 15, 3) := by decide +kernel
theorem dX6_weigh_65 : decode cX6_weigh 65 = .ok (.iload_n 2, 1) := by decide +kernel
theorem dX6_weigh_66 : decode cX6_weigh 66 = .ok (.dup2, 1) := by decide +kernel
theorem dX6_weigh_67 : decode cX6_weigh 67 = .ok (.iaload, 1) := by decide +kernel
theorem dX6_weigh_68 : decode cX6_weigh 68 = .ok (.aload_n 0, 1) := by decide +kernel
theorem dX6_weigh_69 : decode cX6_weigh 69 = .ok (.getfield 15, 3) := by decide +kernel
theorem dX6_weigh_72 : decode cX6_weigh 72 = .ok (.iload_n 1, 1) := by decide +kernel
theorem dX6_weigh_73 : decode cX6_weigh 73 = .ok (.iaload, 1) := by decide +kernel
theorem dX6_weigh_74 : decode cX6_weigh 74 = .ok (.iadd, 1) := by decide +kernel
theorem dX6_weigh_75 : decode cX6_weigh 75 = .ok (.iastore, 1) := by decide +kernel
theorem dX6_weigh_76 : decode cX6_weigh 76 = .ok (.iinc 1 (-1), 3) := by decide +kernel
theorem dX6_weigh_79 : decode cX6_weigh 79 = .ok (.goto (-43), 3) := by decide +kernel
theorem dX6_weigh_82 : decode cX6_weigh 82 = .ok (.return_, 1) := by decide +kernel
set_option maxRecDepth 20000 in
theorem ggX7_find_X7_spelling : GoodIn wsX7_find wsX7_spelling := goodIn_r _ [4] (by decide +kernel) (by decide +kernel)
set_option maxRecDepth 20000 in
theorem gX7_find_X7_spelling : GoodIn wsX7_find (va_wsS RX7 11 yX7_spelling wsX7_spelling) := goodIn_app (goodIn_of _ (by decide +kernel)) ggX7_find_X7_spelling
set_option maxRecDepth 20000 in
theorem ggX7_find_X5_isWord : GoodIn wsX7_find wsX5_isWord := goodIn_r _ [9, 10, 11, 12, 13, 14, 15, 16, 17, 18, 19, 20, 21, 22, 23, 24, 8, 25, 26, 27, 28, 29, 30, 31, 32, 33, 34, 35, 36, 37, 38, 39, 40, 41, 42, 43, 44, 45, 46, 47, 48, 49, 50, 51, 52, 53, 54, 55, 56, 57, 58, 59, 60, 61, 62, 63, 64, 65, 66] (by decide +kernel) (by decide +kernel)
set_option maxRecDepth 20000 in
theorem gX7_find_X5_isWord : GoodIn wsX7_find (wsV RX7 15 RX5 yX5_isWord wsX5_isWord) := goodIn_app (goodIn_of _ (by decide +kernel)) ggX7_find_X5_isWord
theorem dX7_find_0 : decode cX7_find 0 = .ok (.iconst 0, 1) := by decide +kernel
theorem dX7_find_1 : decode cX7_find 1 = .ok (.istore_n 3, 1) := by decide +kernel
theorem dX7_find_2 : decode cX7_find 2 = .ok (.iload_n 3, 1) := by decide +kernel
theorem dX7_find_3 : decode cX7_find 3 = .ok (.bipush 10, 2) := by decide +kernel
theorem dX7_find_5 : decode cX7_find 5 = .ok (.if_icmp .ge 24, 3) := by decide +kernel
theorem dX7_find_8 : decode cX7_find 8 = .ok (.aload_n 0, 1) := by decide +kernel
theorem dX7_find_9 : decode cX7_find 9 = .ok (.iload_n 1, 1) := by decide +kernel
theorem dX7_find_10 : decode cX7_find 10 = .ok (.iload_n 2, 1) := by decide +kernel
theorem dX7_find_11 : decode cX7_find 11 = .ok (.iload_n 3, 1) := by decide +kernel
theorem dX7_find_12 : decode cX7_find 12 = .ok (.invokestatic 11, 3) := by decide +kernel
theorem dX7_find_15 : decode cX7_find 15 = .ok (.invokevirtual 15, 3) := by decide +kernel
theorem dX7_find_18 : decode cX7_find 18 = .ok (.ifCond .eq 5, 3) := by decide +kernel
theorem dX7_find_21 : decode cX7_find 21 = .ok (.iload_n 3, 1) := by decide +kernel
theorem dX7_find_22 : decode cX7_find 22 = .ok (.ireturn, 1) := by decide +kernel
theorem dX7_find_23 : decode cX7_find 23 = .ok (.iinc 3 1, 3) := by decide +kernel
theorem dX7_find_26 : decode cX7_find 26 = .ok (.goto (-24), 3) := by decide +kernel
theorem dX7_find_29 : decode cX7_find 29 = .ok (.iconst (-1), 1) := by decide +kernel
theorem dX7_find_30 : decode cX7_find 30 = .ok (.ireturn, 1) := by decide +kernel
theorem dX7_firstNeed_0 : decode cX7_firstNeed 0 = .ok (.iload_n 0, 1) := by decide +kernel
theorem dX7_firstNeed_1 : decode cX7_firstNeed 1 = .ok (.ifCond .lt 19, 3) := by decide +kernel
theorem dX7_firstNeed_4 : decode cX7_firstNeed 4 = .ok (.iload_n 0, 1) := by decide +kernel
theorem dX7_firstNeed_5 : decode cX7_firstNeed 5 = .ok (.getstatic 21, 3) := by decide +kernel
theorem dX7_firstNeed_8 : decode cX7_firstNeed 8 = .ok (.arraylength, 1) := by decide +kernel
theorem dX7_firstNeed_9 : decode cX7_firstNeed 9 = .ok (.if_icmp .ge 11, 3) := by decide +kernel
theorem dX7_firstNeed_12 : decode cX7_firstNeed 12 = .ok (.getstatic 21, 3) := by decide +kernel
theorem dX7_firstNeed_15 : decode cX7_firstNeed 15 = .ok (.iload_n 0, 1) := by decide +kernel
theorem dX7_firstNeed_16 : decode cX7_firstNeed 16 = .ok (.iaload, 1) := by decide +kernel
theorem dX7_firstNeed_17 : decode cX7_firstNeed 17 = .ok (.goto 4, 3) := by decide +kernel
theorem dX7_firstNeed_20 : decode cX7_firstNeed 20 = .ok (.iconst 0, 1) := by decide +kernel
theorem dX7_firstNeed_21 : decode cX7_firstNeed 21 = .ok (.ireturn, 1) := by decide +kernel
theorem dX7_secondNeed_0 : decode cX7_secondNeed 0 = .ok (.iload_n 0, 1) := by decide +kernel
theorem dX7_secondNeed_1 : decode cX7_secondNeed 1 = .ok (.ifCond .lt 19, 3) := by decide +kernel
theorem dX7_secondNeed_4 : decode cX7_secondNeed 4 = .ok (.iload_n 0, 1) := by decide +kernel
theorem dX7_secondNeed_5 : decode cX7_secondNeed 5 = .ok (.getstatic 25, 3) := by decide +kernel
theorem dX7_secondNeed_8 : decode cX7_secondNeed 8 = .ok (.arraylength, 1) := by decide +kernel
theorem dX7_secondNeed_9 : decode cX7_secondNeed 9 = .ok (.if_icmp .ge 11, 3) := by decide +kernel
theorem dX7_secondNeed_12 : decode cX7_secondNeed 12 = .ok (.getstatic 25, 3) := by decide +kernel
theorem dX7_secondNeed_15 : decode cX7_secondNeed 15 = .ok (.iload_n 0, 1) := by decide +kernel
theorem dX7_secondNeed_16 : decode cX7_secondNeed 16 = .ok (.iaload, 1) := by decide +kernel
theorem dX7_secondNeed_17 : decode cX7_secondNeed 17 = .ok (.goto 4, 3) := by decide +kernel
theorem dX7_secondNeed_20 : decode cX7_secondNeed 20 = .ok (.iconst 0, 1) := by decide +kernel
theorem dX7_secondNeed_21 : decode cX7_secondNeed 21 = .ok (.ireturn, 1) := by decide +kernel
set_option maxRecDepth 20000 in
theorem ggX7_suits_X8_isLength : GoodIn wsX7_suits wsX8_isLength := goodIn_r _ [3] (by decide +kernel) (by decide +kernel)
set_option maxRecDepth 20000 in
theorem gX7_suits_X8_isLength_n28 : GoodIn wsX7_suits (wsX8_isLength) := ggX7_suits_X8_isLength
theorem dX7_suits_0 : decode cX7_suits 0 = .ok (.iload_n 0, 1) := by decide +kernel
theorem dX7_suits_1 : decode cX7_suits 1 = .ok (.tableswitch 58 1 3 #[27, 38, 53], 27) := by decide +kernel
theorem dX7_suits_28 : decode cX7_suits 28 = .ok (.iload_n 1, 1) := by decide +kernel
theorem dX7_suits_29 : decode cX7_suits 29 = .ok (.iload_n 2, 1) := by decide +kernel
theorem dX7_suits_30 : decode cX7_suits 30 = .ok (.if_icmp .ge 7, 3) := by decide +kernel
theorem dX7_suits_33 : decode cX7_suits 33 = .ok (.iconst 1, 1) := by decide +kernel
theorem dX7_suits_34 : decode cX7_suits 34 = .ok (.goto 4, 3) := by decide +kernel
theorem dX7_suits_37 : decode cX7_suits 37 = .ok (.iconst 0, 1) := by decide +kernel
theorem dX7_suits_38 : decode cX7_suits 38 = .ok (.ireturn, 1) := by decide +kernel
theorem dX7_suits_39 : decode cX7_suits 39 = .ok (.iload_n 1, 1) := by decide +kernel
theorem dX7_suits_40 : decode cX7_suits 40 = .ok (.ifCond .le 12, 3) := by decide +kernel
theorem dX7_suits_43 : decode cX7_suits 43 = .ok (.iload_n 1, 1) := by decide +kernel
theorem dX7_suits_44 : decode cX7_suits 44 = .ok (.iload_n 2, 1) := by decide +kernel
theorem dX7_suits_45 : decode cX7_suits 45 = .ok (.if_icmp .ge 7, 3) := by decide +kernel
theorem dX7_suits_48 : decode cX7_suits 48 = .ok (.iconst 1, 1) := by decide +kernel
theorem dX7_suits_49 : decode cX7_suits 49 = .ok (.goto 4, 3) := by decide +kernel
theorem dX7_suits_52 : decode cX7_suits 52 = .ok (.iconst 0, 1) := by decide +kernel
theorem dX7_suits_53 : decode cX7_suits 53 = .ok (.ireturn, 1) := by decide +kernel
theorem dX7_suits_54 : decode cX7_suits 54 = .ok (.iload_n 1, 1) := by decide +kernel
theorem dX7_suits_55 : decode cX7_suits 55 = .ok (.invokestatic 28, 3) := by decide +kernel
theorem dX7_suits_58 : decode cX7_suits 58 = .ok (.ireturn, 1) := by decide +kernel
theorem dX7_suits_59 : decode cX7_suits 59 = .ok (.iload_n 1, 1) := by decide +kernel
theorem dX7_suits_60 : decode cX7_suits 60 = .ok (.bipush 99, 2) := by decide +kernel
theorem dX7_suits_62 : decode cX7_suits 62 = .ok (.if_icmp .gt 7, 3) := by decide +kernel
theorem dX7_suits_65 : decode cX7_suits 65 = .ok (.iconst 1, 1) := by decide +kernel
theorem dX7_suits_66 : decode cX7_suits 66 = .ok (.goto 4, 3) := by decide +kernel
theorem dX7_suits_69 : decode cX7_suits 69 = .ok (.iconst 0, 1) := by decide +kernel
theorem dX7_suits_70 : decode cX7_suits 70 = .ok (.ireturn, 1) := by decide +kernel
theorem dX7_spelling_0 : decode cX7_spelling 0 = .ok (.iload_n 0, 1) := by decide +kernel
theorem dX7_spelling_1 : decode cX7_spelling 1 = .ok (.tableswitch 78 0 8 #[51, 54, 57, 60, 63, 66, 69, 72, 75], 51) := by decide +kernel
theorem dX7_spelling_52 : decode cX7_spelling 52 = .ok (.ldc 32, 2) := by decide +kernel
theorem dX7_spelling_54 : decode cX7_spelling 54 = .ok (.areturn, 1) := by decide +kernel
theorem dX7_spelling_55 : decode cX7_spelling 55 = .ok (.ldc 34, 2) := by decide +kernel
theorem dX7_spelling_57 : decode cX7_spelling 57 = .ok (.areturn, 1) := by decide +kernel
theorem dX7_spelling_58 : decode cX7_spelling 58 = .ok (.ldc 36, 2) := by decide +kernel
theorem dX7_spelling_60 : decode cX7_spelling 60 = .ok (.areturn, 1) := by decide +kernel
theorem dX7_spelling_61 : decode cX7_spelling 61 = .ok (.ldc 38, 2) := by decide +kernel
theorem dX7_spelling_63 : decode cX7_spelling 63 = .ok (.areturn, 1) := by decide +kernel
theorem dX7_spelling_64 : decode cX7_spelling 64 = .ok (.ldc 40, 2) := by decide +kernel
theorem dX7_spelling_66 : decode cX7_spelling 66 = .ok (.areturn, 1) := by decide +kernel
theorem dX7_spelling_67 : decode cX7_spelling 67 = .ok (.ldc 42, 2) := by decide +kernel
theorem dX7_spelling_69 : decode cX7_spelling 69 = .ok (.areturn, 1) := by decide +kernel
theorem dX7_spelling_70 : decode cX7_spelling 70 = .ok (.ldc 44, 2) := by decide +kernel
theorem dX7_spelling_72 : decode cX7_spelling 72 = .ok (.areturn, 1) := by decide +kernel
theorem dX7_spelling_73 : decode cX7_spelling 73 = .ok (.ldc 46, 2) := by decide +kernel
theorem dX7_spelling_75 : decode cX7_spelling 75 = .ok (.areturn, 1) := by decide +kernel
theorem dX7_spelling_76 : decode cX7_spelling 76 = .ok (.ldc 48, 2) := by decide +kernel
theorem dX7_spelling_78 : decode cX7_spelling 78 = .ok (.areturn, 1) := by decide +kernel
theorem dX7_spelling_79 : decode cX7_spelling 79 = .ok (.ldc 50, 2) := by decide +kernel
theorem dX7_spelling_81 : decode cX7_spelling 81 = .ok (.areturn, 1) := by decide +kernel
set_option maxRecDepth 20000 in
theorem ggX8_init_X1_init : GoodIn wsX8_init wsX1_init := goodIn_r _ [34, 35, 2, 3, 36, 37, 38, 39, 40, 41, 42, 43, 44, 6, 45, 46, 47, 90, 91, 92, 93, 94, 95] (by decide +kernel) (by decide +kernel)
set_option maxRecDepth 20000 in
theorem gX8_init_X1_init : GoodIn wsX8_init (wsX1_init) := ggX8_init_X1_init
set_option maxRecDepth 20000 in
theorem ggX8_init_X6_init : GoodIn wsX8_init wsX6_init := goodIn_r _ [50, 51, 2, 3, 36, 52, 53, 54, 105, 106, 107, 108] (by decide +kernel) (by decide +kernel)
set_option maxRecDepth 20000 in
theorem gX8_init_X6_init : GoodIn wsX8_init (wsX6_init) := ggX8_init_X6_init
set_option maxRecDepth 20000 in
theorem ggX8_init_X0_init : GoodIn wsX8_init wsX0_init := goodIn_r _ [57, 58, 2, 3, 36, 59, 60, 109, 110] (by decide +kernel) (by decide +kernel)
set_option maxRecDepth 20000 in
theorem gX8_init_X0_init : GoodIn wsX8_init (wsX0_init) := ggX8_init_X0_init
set_option maxRecDepth 20000 in
theorem ggX8_init_X5_init : GoodIn wsX8_init wsX5_init := goodIn_r _ [63, 64, 2, 3, 65, 66, 67, 111, 112] (by decide +kernel) (by decide +kernel)
set_option maxRecDepth 20000 in
theorem gX8_init_X5_init : GoodIn wsX8_init (wsX5_init) := ggX8_init_X5_init
set_option maxRecDepth 20000 in
theorem ggX8_init_X3_init : GoodIn wsX8_init wsX3_init := goodIn_r _ [70, 71, 2, 3, 36, 72, 73, 74, 75, 113, 114, 115, 116, 117, 118, 119, 120] (by decide +kernel) (by decide +kernel)
set_option maxRecDepth 20000 in
theorem gX8_init_X3_init : GoodIn wsX8_init (wsX3_init) := ggX8_init_X3_init
set_option maxRecDepth 20000 in
theorem ggX8_init_X2_init : GoodIn wsX8_init wsX2_init := goodIn_r _ [78, 79, 2, 3, 65, 80, 81, 121, 122] (by decide +kernel) (by decide +kernel)
set_option maxRecDepth 20000 in
theorem gX8_init_X2_init : GoodIn wsX8_init (wsX2_init) := ggX8_init_X2_init
set_option maxRecDepth 20000 in
theorem ggX8_init_X4_init : GoodIn wsX8_init wsX4_init := goodIn_r _ [84, 85, 2, 3, 86, 87, 88, 89, 123, 124, 125, 126] (by decide +kernel) (by decide +kernel)
set_option maxRecDepth 20000 in
theorem gX8_init_X4_init : GoodIn wsX8_init (wsX4_init) := ggX8_init_X4_init
theorem dX8_init_0 : decode cX8_init 0 = .ok (.aload_n 0, 1) := by decide +kernel
theorem dX8_init_1 : decode cX8_init 1 = .ok (.invokespecial 3, 3) := by decide +kernel
theorem dX8_init_4 : decode cX8_init 4 = .ok (.aload_n 0, 1) := by decide +kernel
theorem dX8_init_5 : decode cX8_init 5 = .ok (.new 9, 3) := by decide +kernel
theorem dX8_init_8 : decode cX8_init 8 = .ok (.dup, 1) := by decide +kernel
theorem dX8_init_9 : decode cX8_init 9 = .ok (.invokespecial 11, 3) := by decide +kernel
theorem dX8_init_12 : decode cX8_init 12 = .ok (.putfield 12, 3) := by decide +kernel
theorem dX8_init_15 : decode cX8_init 15 = .ok (.aload_n 0, 1) := by decide +kernel
theorem dX8_init_16 : decode cX8_init 16 = .ok (.new 16, 3) := by decide +kernel
theorem dX8_init_19 : decode cX8_init 19 = .ok (.dup, 1) := by decide +kernel
theorem dX8_init_20 : decode cX8_init 20 = .ok (.aload_n 0, 1) := by decide +kernel
theorem dX8_init_21 : decode cX8_init 21 = .ok (.getfield 12, 3) := by decide +kernel
theorem dX8_init_24 : decode cX8_init 24 = .ok (.invokespecial 18, 3) := by decide +kernel
theorem dX8_init_27 : decode cX8_init 27 = .ok (.putfield 21, 3) := by decide +kernel
theorem dX8_init_30 : decode cX8_init 30 = .ok (.aload_n 0, 1) := by decide +kernel
theorem dX8_init_31 : decode cX8_init 31 = .ok (.new 25, 3) := by decide +kernel
theorem dX8_init_34 : decode cX8_init 34 = .ok (.dup, 1) := by decide +kernel
theorem dX8_init_35 : decode cX8_init 35 = .ok (.aload_n 0, 1) := by decide +kernel
theorem dX8_init_36 : decode cX8_init 36 = .ok (.getfield 12, 3) := by decide +kernel
theorem dX8_init_39 : decode cX8_init 39 = .ok (.invokespecial 27, 3) := by decide +kernel
theorem dX8_init_42 : decode cX8_init 42 = .ok (.putfield 28, 3) := by decide +kernel
theorem dX8_init_45 : decode cX8_init 45 = .ok (.aload_n 0, 1) := by decide +kernel
theorem dX8_init_46 : decode cX8_init 46 = .ok (.new 32, 3) := by decide +kernel
theorem dX8_init_49 : decode cX8_init 49 = .ok (.dup, 1) := by decide +kernel
theorem dX8_init_50 : decode cX8_init 50 = .ok (.invokespecial 34, 3) := by decide +kernel
theorem dX8_init_53 : decode cX8_init 53 = .ok (.putfield 35, 3) := by decide +kernel
theorem dX8_init_56 : decode cX8_init 56 = .ok (.aload_n 0, 1) := by decide +kernel
theorem dX8_init_57 : decode cX8_init 57 = .ok (.new 39, 3) := by decide +kernel
theorem dX8_init_60 : decode cX8_init 60 = .ok (.dup, 1) := by decide +kernel
theorem dX8_init_61 : decode cX8_init 61 = .ok (.aload_n 0, 1) := by decide +kernel
theorem dX8_init_62 : decode cX8_init 62 = .ok (.getfield 35, 3) := by decide +kernel
theorem dX8_init_65 : decode cX8_init 65 = .ok (.invokespecial 41, 3) := by decide +kernel
theorem dX8_init_68 : decode cX8_init 68 = .ok (.putfield 44, 3) := by decide +kernel
theorem dX8_init_71 : decode cX8_init 71 = .ok (.aload_n 0, 1) := by decide +kernel
theorem dX8_init_72 : decode cX8_init 72 = .ok (.new 48, 3) := by decide +kernel
theorem dX8_init_75 : decode cX8_init 75 = .ok (.dup, 1) := by decide +kernel
theorem dX8_init_76 : decode cX8_init 76 = .ok (.invokespecial 50, 3) := by decide +kernel
theorem dX8_init_79 : decode cX8_init 79 = .ok (.putfield 51, 3) := by decide +kernel
theorem dX8_init_82 : decode cX8_init 82 = .ok (.aload_n 0, 1) := by decide +kernel
theorem dX8_init_83 : decode cX8_init 83 = .ok (.new 55, 3) := by decide +kernel
theorem dX8_init_86 : decode cX8_init 86 = .ok (.dup, 1) := by decide +kernel
theorem dX8_init_87 : decode cX8_init 87 = .ok (.aload_n 0, 1) := by decide +kernel
theorem dX8_init_88 : decode cX8_init 88 = .ok (.getfield 12, 3) := by decide +kernel
theorem dX8_init_91 : decode cX8_init 91 = .ok (.aload_n 0, 1) := by decide +kernel
theorem dX8_init_92 : decode cX8_init 92 = .ok (.getfield 21, 3) := by decide +kernel
theorem dX8_init_95 : decode cX8_init 95 = .ok (.aload_n 0, 1) := by decide +kernel
theorem dX8_init_96 : decode cX8_init 96 = .ok (.getfield 28, 3) := by decide +kernel
theorem dX8_init_99 : decode cX8_init 99 = .ok (.aload_n 0, 1) := by decide +kernel
theorem dX8_init_100 : decode cX8_init 100 = .ok (.getfield 51, 3) := by decide +kernel
theorem dX8_init_103 : decode cX8_init 103 = .ok (.invokespecial 57, 3) := by decide +kernel
theorem dX8_init_106 : decode cX8_init 106 = .ok (.putfield 60, 3) := by decide +kernel
theorem dX8_init_109 : decode cX8_init 109 = .ok (.return_, 1) := by decide +kernel
set_option maxRecDepth 20000 in
theorem ggX8_add_X1_has : GoodIn wsX8_add wsX1_has := goodIn_r _ [7, 8, 49, 50, 51, 52, 53, 54] (by decide +kernel) (by decide +kernel)
set_option maxRecDepth 20000 in
theorem gX8_add_X1_has : GoodIn wsX8_add (wsV RX8 64 RX1 yX1_has wsX1_has) := goodIn_app (goodIn_of _ (by decide +kernel)) ggX8_add_X1_has
set_option maxRecDepth 20000 in
theorem ggX8_add_X8_isLength : GoodIn wsX8_add wsX8_isLength := goodIn_r _ [12] (by decide +kernel) (by decide +kernel)
set_option maxRecDepth 20000 in
theorem gX8_add_X8_isLength : GoodIn wsX8_add (va_wsS RX8 68 yX8_isLength wsX8_isLength) := goodIn_app (goodIn_of _ (by decide +kernel)) ggX8_add_X8_isLength
set_option maxRecDepth 20000 in
theorem ggX8_add_X8_refuseBad : GoodIn wsX8_add wsX8_refuseBad := goodIn_r _ [16, 17, 40, 41, 42, 43, 44, 45, 46, 47, 48] (by decide +kernel) (by decide +kernel)
set_option maxRecDepth 20000 in
theorem gX8_add_X8_refuseBad : GoodIn wsX8_add (wsV RX8 71 RX8 yX8_refuseBad wsX8_refuseBad) := goodIn_app (goodIn_of _ (by decide +kernel)) ggX8_add_X8_refuseBad
set_option maxRecDepth 20000 in
theorem ggX8_add_X8_refuseFull : GoodIn wsX8_add wsX8_refuseFull := goodIn_r _ [21, 22, 40, 41, 42, 43, 44, 45, 46, 47, 48] (by decide +kernel) (by decide +kernel)
set_option maxRecDepth 20000 in
theorem gX8_add_X8_refuseFull : GoodIn wsX8_add (wsV RX8 79 RX8 yX8_refuseFull wsX8_refuseFull) := goodIn_app (goodIn_of _ (by decide +kernel)) ggX8_add_X8_refuseFull
set_option maxRecDepth 20000 in
theorem ggX8_add_X1_settle : GoodIn wsX8_add wsX1_settle := goodIn_r _ [26, 8, 27, 28, 29, 30, 4, 5, 6, 7, 31, 32, 33, 34, 35, 36, 37, 38, 39, 49, 50, 51, 52, 53, 54] (by decide +kernel) (by decide +kernel)
set_option maxRecDepth 20000 in
theorem gX8_add_X1_settle : GoodIn wsX8_add (wsV RX8 82 RX1 yX1_settle wsX1_settle) := goodIn_app (goodIn_of _ (by decide +kernel)) ggX8_add_X1_settle
theorem dX8_add_0 : decode cX8_add 0 = .ok (.aload_n 0, 1) := by decide +kernel
theorem dX8_add_1 : decode cX8_add 1 = .ok (.getfield 12, 3) := by decide +kernel
theorem dX8_add_4 : decode cX8_add 4 = .ok (.iload_n 1, 1) := by decide +kernel
theorem dX8_add_5 : decode cX8_add 5 = .ok (.invokevirtual 64, 3) := by decide +kernel
theorem dX8_add_8 : decode cX8_add 8 = .ok (.ifCond .eq 10, 3) := by decide +kernel
theorem dX8_add_11 : decode cX8_add 11 = .ok (.iload_n 2, 1) := by decide +kernel
theorem dX8_add_12 : decode cX8_add 12 = .ok (.invokestatic 68, 3) := by decide +kernel
theorem dX8_add_15 : decode cX8_add 15 = .ok (.ifCond .ne 8, 3) := by decide +kernel
theorem dX8_add_18 : decode cX8_add 18 = .ok (.aload_n 0, 1) := by decide +kernel
theorem dX8_add_19 : decode cX8_add 19 = .ok (.invokevirtual 71, 3) := by decide +kernel
theorem dX8_add_22 : decode cX8_add 22 = .ok (.ireturn, 1) := by decide +kernel
theorem dX8_add_23 : decode cX8_add 23 = .ok (.aload_n 0, 1) := by decide +kernel
theorem dX8_add_24 : decode cX8_add 24 = .ok (.getfield 12, 3) := by decide +kernel
theorem dX8_add_27 : decode cX8_add 27 = .ok (.getfield 75, 3) := by decide +kernel
theorem dX8_add_30 : decode cX8_add 30 = .ok (.bipush 60, 2) := by decide +kernel
theorem dX8_add_32 : decode cX8_add 32 = .ok (.if_icmp .lt 8, 3) := by decide +kernel
theorem dX8_add_35 : decode cX8_add 35 = .ok (.aload_n 0, 1) := by decide +kernel
theorem dX8_add_36 : decode cX8_add 36 = .ok (.invokevirtual 79, 3) := by decide +kernel
theorem dX8_add_39 : decode cX8_add 39 = .ok (.ireturn, 1) := by decide +kernel
theorem dX8_add_40 : decode cX8_add 40 = .ok (.aload_n 0, 1) := by decide +kernel
theorem dX8_add_41 : decode cX8_add 41 = .ok (.getfield 12, 3) := by decide +kernel
theorem dX8_add_44 : decode cX8_add 44 = .ok (.iload_n 1, 1) := by decide +kernel
theorem dX8_add_45 : decode cX8_add 45 = .ok (.iload_n 2, 1) := by decide +kernel
theorem dX8_add_46 : decode cX8_add 46 = .ok (.invokevirtual 82, 3) := by decide +kernel
theorem dX8_add_49 : decode cX8_add 49 = .ok (.ireturn, 1) := by decide +kernel
set_option maxRecDepth 20000 in
theorem ggX8_depot_X1_has : GoodIn wsX8_depot wsX1_has := goodIn_r _ [6, 7, 33, 34, 35, 36, 37, 38] (by decide +kernel) (by decide +kernel)
set_option maxRecDepth 20000 in
theorem gX8_depot_X1_has : GoodIn wsX8_depot (wsV RX8 64 RX1 yX1_has wsX1_has) := goodIn_app (goodIn_of _ (by decide +kernel)) ggX8_depot_X1_has
set_option maxRecDepth 20000 in
theorem ggX8_depot_X8_isUpTo : GoodIn wsX8_depot wsX8_isUpTo := goodIn_r _ [11] (by decide +kernel) (by decide +kernel)
set_option maxRecDepth 20000 in
theorem gX8_depot_X8_isUpTo : GoodIn wsX8_depot (va_wsS RX8 86 yX8_isUpTo wsX8_isUpTo) := goodIn_app (goodIn_of _ (by decide +kernel)) ggX8_depot_X8_isUpTo
set_option maxRecDepth 20000 in
theorem ggX8_depot_X8_refuseBad : GoodIn wsX8_depot wsX8_refuseBad := goodIn_r _ [15, 16, 24, 25, 26, 27, 28, 29, 30, 31, 32] (by decide +kernel) (by decide +kernel)
set_option maxRecDepth 20000 in
theorem gX8_depot_X8_refuseBad : GoodIn wsX8_depot (wsV RX8 71 RX8 yX8_refuseBad wsX8_refuseBad) := goodIn_app (goodIn_of _ (by decide +kernel)) ggX8_depot_X8_refuseBad
set_option maxRecDepth 20000 in
theorem ggX8_depot_X1_setDepot : GoodIn wsX8_depot wsX1_setDepot := goodIn_r _ [20, 21, 22, 23, 3, 4, 5, 6, 7, 33, 34, 35, 36, 37, 38] (by decide +kernel) (by decide +kernel)
set_option maxRecDepth 20000 in
theorem gX8_depot_X1_setDepot : GoodIn wsX8_depot (wsV RX8 90 RX1 yX1_setDepot wsX1_setDepot) := goodIn_app (goodIn_of _ (by decide +kernel)) ggX8_depot_X1_setDepot
theorem dX8_depot_0 : decode cX8_depot 0 = .ok (.aload_n 0, 1) := by decide +kernel
theorem dX8_depot_1 : decode cX8_depot 1 = .ok (.getfield 12, 3) := by decide +kernel
theorem dX8_depot_4 : decode cX8_depot 4 = .ok (.iload_n 1, 1) := by decide +kernel
theorem dX8_depot_5 : decode cX8_depot 5 = .ok (.invokevirtual 64, 3) := by decide +kernel
theorem dX8_depot_8 : decode cX8_depot 8 = .ok (.ifCond .eq 11, 3) := by decide +kernel
theorem dX8_depot_11 : decode cX8_depot 11 = .ok (.iload_n 2, 1) := by decide +kernel
theorem dX8_depot_12 : decode cX8_depot 12 = .ok (.iconst 1, 1) := by decide +kernel
theorem dX8_depot_13 : decode cX8_depot 13 = .ok (.invokestatic 86, 3) := by decide +kernel
theorem dX8_depot_16 : decode cX8_depot 16 = .ok (.ifCond .ne 8, 3) := by decide +kernel
theorem dX8_depot_19 : decode cX8_depot 19 = .ok (.aload_n 0, 1) := by decide +kernel
theorem dX8_depot_20 : decode cX8_depot 20 = .ok (.invokevirtual 71, 3) := by decide +kernel
theorem dX8_depot_23 : decode cX8_depot 23 = .ok (.ireturn, 1) := by decide +kernel
theorem dX8_depot_24 : decode cX8_depot 24 = .ok (.aload_n 0, 1) := by decide +kernel
theorem dX8_depot_25 : decode cX8_depot 25 = .ok (.getfield 12, 3) := by decide +kernel
theorem dX8_depot_28 : decode cX8_depot 28 = .ok (.iload_n 1, 1) := by decide +kernel
theorem dX8_depot_29 : decode cX8_depot 29 = .ok (.iload_n 2, 1) := by decide +kernel
theorem dX8_depot_30 : decode cX8_depot 30 = .ok (.iconst 1, 1) := by decide +kernel
theorem dX8_depot_31 : decode cX8_depot 31 = .ok (.if_icmp .ne 7, 3) := by decide +kernel
theorem dX8_depot_34 : decode cX8_depot 34 = .ok (.iconst 1, 1) := by decide +kernel
theorem dX8_depot_35 : decode cX8_depot 35 = .ok (.goto 4, 3) := by decide +kernel
theorem dX8_depot_38 : decode cX8_depot 38 = .ok (.iconst 0, 1) := by decide +kernel
theorem dX8_depot_39 : decode cX8_depot 39 = .ok (.invokevirtual 90, 3) := by decide +kernel
theorem dX8_depot_42 : decode cX8_depot 42 = .ok (.ireturn, 1) := by decide +kernel
set_option maxRecDepth 20000 in
theorem ggX8_road_X1_has : GoodIn wsX8_road wsX1_has := goodIn_r _ [6, 7, 42, 43, 44, 45, 46, 47] (by decide +kernel) (by decide +kernel)
set_option maxRecDepth 20000 in
theorem gX8_road_X1_has : GoodIn wsX8_road (wsV RX8 64 RX1 yX1_has wsX1_has) := goodIn_app (goodIn_of _ (by decide +kernel)) ggX8_road_X1_has
set_option maxRecDepth 20000 in
theorem ggX8_road_X8_isLength : GoodIn wsX8_road wsX8_isLength := goodIn_r _ [11] (by decide +kernel) (by decide +kernel)
set_option maxRecDepth 20000 in
theorem gX8_road_X8_isLength : GoodIn wsX8_road (va_wsS RX8 68 yX8_isLength wsX8_isLength) := goodIn_app (goodIn_of _ (by decide +kernel)) ggX8_road_X8_isLength
set_option maxRecDepth 20000 in
theorem ggX8_road_X8_refuseBad : GoodIn wsX8_road wsX8_refuseBad := goodIn_r _ [15, 16, 33, 34, 35, 36, 37, 38, 39, 40, 41] (by decide +kernel) (by decide +kernel)
set_option maxRecDepth 20000 in
theorem gX8_road_X8_refuseBad : GoodIn wsX8_road (wsV RX8 71 RX8 yX8_refuseBad wsX8_refuseBad) := goodIn_app (goodIn_of _ (by decide +kernel)) ggX8_road_X8_refuseBad
set_option maxRecDepth 20000 in
theorem ggX8_road_X1_setRoad : GoodIn wsX8_road wsX1_setRoad := goodIn_r _ [20, 21, 7, 22, 3, 4, 5, 6, 23, 24, 25, 26, 27, 28, 29, 30, 31, 32, 42, 43, 44, 45, 46, 47] (by decide +kernel) (by decide +kernel)
set_option maxRecDepth 20000 in
theorem gX8_road_X1_setRoad : GoodIn wsX8_road (wsV RX8 94 RX1 yX1_setRoad wsX1_setRoad) := goodIn_app (goodIn_of _ (by decide +kernel)) ggX8_road_X1_setRoad
theorem dX8_road_0 : decode cX8_road 0 = .ok (.aload_n 0, 1) := by decide +kernel
theorem dX8_road_1 : decode cX8_road 1 = .ok (.getfield 12, 3) := by decide +kernel
theorem dX8_road_4 : decode cX8_road 4 = .ok (.iload_n 1, 1) := by decide +kernel
theorem dX8_road_5 : decode cX8_road 5 = .ok (.invokevirtual 64, 3) := by decide +kernel
theorem dX8_road_8 : decode cX8_road 8 = .ok (.ifCond .eq 14, 3) := by decide +kernel
theorem dX8_road_11 : decode cX8_road 11 = .ok (.iload_n 1, 1) := by decide +kernel
theorem dX8_road_12 : decode cX8_road 12 = .ok (.ifCond .eq 10, 3) := by decide +kernel
theorem dX8_road_15 : decode cX8_road 15 = .ok (.iload_n 2, 1) := by decide +kernel
theorem dX8_road_16 : decode cX8_road 16 = .ok (.invokestatic 68, 3) := by decide +kernel
theorem dX8_road_19 : decode cX8_road 19 = .ok (.ifCond .ne 8, 3) := by decide +kernel
theorem dX8_road_22 : decode cX8_road 22 = .ok (.aload_n 0, 1) := by decide +kernel
theorem dX8_road_23 : decode cX8_road 23 = .ok (.invokevirtual 71, 3) := by decide +kernel
theorem dX8_road_26 : decode cX8_road 26 = .ok (.ireturn, 1) := by decide +kernel
theorem dX8_road_27 : decode cX8_road 27 = .ok (.aload_n 0, 1) := by decide +kernel
theorem dX8_road_28 : decode cX8_road 28 = .ok (.getfield 12, 3) := by decide +kernel
theorem dX8_road_31 : decode cX8_road 31 = .ok (.iload_n 1, 1) := by decide +kernel
theorem dX8_road_32 : decode cX8_road 32 = .ok (.iload_n 2, 1) := by decide +kernel
theorem dX8_road_33 : decode cX8_road 33 = .ok (.invokevirtual 94, 3) := by decide +kernel
theorem dX8_road_36 : decode cX8_road 36 = .ok (.ireturn, 1) := by decide +kernel
set_option maxRecDepth 20000 in
theorem ggX8_anew_X1_empty : GoodIn wsX8_anew wsX1_empty := goodIn_r _ [6, 7, 8, 9, 10, 11, 21, 22, 23, 24, 25, 26] (by decide +kernel) (by decide +kernel)
set_option maxRecDepth 20000 in
theorem gX8_anew_X1_empty : GoodIn wsX8_anew (wsV RX8 97 RX1 yX1_empty wsX1_empty) := goodIn_app (goodIn_of _ (by decide +kernel)) ggX8_anew_X1_empty
theorem dX8_anew_0 : decode cX8_anew 0 = .ok (.aload_n 0, 1) := by decide +kernel
theorem dX8_anew_1 : decode cX8_anew 1 = .ok (.getfield 12, 3) := by decide +kernel
theorem dX8_anew_4 : decode cX8_anew 4 = .ok (.invokevirtual 97, 3) := by decide +kernel
theorem dX8_anew_7 : decode cX8_anew 7 = .ok (.ireturn, 1) := by decide +kernel
set_option maxRecDepth 20000 in
theorem ggX8_draw_X8_isUpTo : GoodIn wsX8_draw wsX8_isUpTo := goodIn_r _ [6] (by decide +kernel) (by decide +kernel)
set_option maxRecDepth 20000 in
theorem gX8_draw_X8_isUpTo : GoodIn wsX8_draw (va_wsS RX8 86 yX8_isUpTo wsX8_isUpTo) := goodIn_app (goodIn_of _ (by decide +kernel)) ggX8_draw_X8_isUpTo
set_option maxRecDepth 20000 in
theorem ggX8_draw_X8_refuseBad : GoodIn wsX8_draw wsX8_refuseBad := goodIn_r _ [10, 11, 55, 56, 57, 58, 59, 60, 61, 62, 63] (by decide +kernel) (by decide +kernel)
set_option maxRecDepth 20000 in
theorem gX8_draw_X8_refuseBad : GoodIn wsX8_draw (wsV RX8 71 RX8 yX8_refuseBad wsX8_refuseBad) := goodIn_app (goodIn_of _ (by decide +kernel)) ggX8_draw_X8_refuseBad
set_option maxRecDepth 20000 in
theorem ggX8_draw_X1_sow : GoodIn wsX8_draw wsX1_sow := goodIn_r _ [16, 17, 18, 19, 20, 21, 22, 23, 24, 25, 26, 27, 28, 29, 15, 30, 31, 32, 33, 34, 35, 36, 37, 38, 39, 40, 41, 42, 43, 44, 45, 46, 47, 48, 49, 50, 51, 52, 53, 54, 64, 65, 66, 67, 68, 69] (by decide +kernel) (by decide +kernel)
set_option maxRecDepth 20000 in
theorem gX8_draw_X1_sow : GoodIn wsX8_draw (wsV RX8 101 RX1 yX1_sow wsX1_sow) := goodIn_app (goodIn_of _ (by decide +kernel)) ggX8_draw_X1_sow
theorem dX8_draw_0 : decode cX8_draw 0 = .ok (.iload_n 1, 1) := by decide +kernel
theorem dX8_draw_1 : decode cX8_draw 1 = .ok (.ldc 100, 2) := by decide +kernel
theorem dX8_draw_3 : decode cX8_draw 3 = .ok (.invokestatic 86, 3) := by decide +kernel
theorem dX8_draw_6 : decode cX8_draw 6 = .ok (.ifCond .eq 12, 3) := by decide +kernel
theorem dX8_draw_9 : decode cX8_draw 9 = .ok (.iload_n 2, 1) := by decide +kernel
theorem dX8_draw_10 : decode cX8_draw 10 = .ok (.bipush 59, 2) := by decide +kernel
theorem dX8_draw_12 : decode cX8_draw 12 = .ok (.invokestatic 86, 3) := by decide +kernel
theorem dX8_draw_15 : decode cX8_draw 15 = .ok (.ifCond .ne 8, 3) := by decide +kernel
theorem dX8_draw_18 : decode cX8_draw 18 = .ok (.aload_n 0, 1) := by decide +kernel
theorem dX8_draw_19 : decode cX8_draw 19 = .ok (.invokevirtual 71, 3) := by decide +kernel
theorem dX8_draw_22 : decode cX8_draw 22 = .ok (.ireturn, 1) := by decide +kernel
theorem dX8_draw_23 : decode cX8_draw 23 = .ok (.aload_n 0, 1) := by decide +kernel
theorem dX8_draw_24 : decode cX8_draw 24 = .ok (.getfield 12, 3) := by decide +kernel
theorem dX8_draw_27 : decode cX8_draw 27 = .ok (.iload_n 1, 1) := by decide +kernel
theorem dX8_draw_28 : decode cX8_draw 28 = .ok (.iload_n 2, 1) := by decide +kernel
theorem dX8_draw_29 : decode cX8_draw 29 = .ok (.invokevirtual 101, 3) := by decide +kernel
theorem dX8_draw_32 : decode cX8_draw 32 = .ok (.ireturn, 1) := by decide +kernel
set_option maxRecDepth 20000 in
theorem ggX8_of_X1_has : GoodIn wsX8_of wsX1_has := goodIn_r _ [6, 7, 38, 39, 40, 41, 42, 43] (by decide +kernel) (by decide +kernel)
set_option maxRecDepth 20000 in
theorem gX8_of_X1_has : GoodIn wsX8_of (wsV RX8 64 RX1 yX1_has wsX1_has) := goodIn_app (goodIn_of _ (by decide +kernel)) ggX8_of_X1_has
set_option maxRecDepth 20000 in
theorem ggX8_of_X8_isUpTo : GoodIn wsX8_of wsX8_isUpTo := goodIn_r _ [11] (by decide +kernel) (by decide +kernel)
set_option maxRecDepth 20000 in
theorem gX8_of_X8_isUpTo : GoodIn wsX8_of (va_wsS RX8 86 yX8_isUpTo wsX8_isUpTo) := goodIn_app (goodIn_of _ (by decide +kernel)) ggX8_of_X8_isUpTo
set_option maxRecDepth 20000 in
theorem ggX8_of_X8_refuseBad : GoodIn wsX8_of wsX8_refuseBad := goodIn_r _ [15, 16, 29, 30, 31, 32, 33, 34, 35, 36, 37] (by decide +kernel) (by decide +kernel)
set_option maxRecDepth 20000 in
theorem gX8_of_X8_refuseBad : GoodIn wsX8_of (wsV RX8 71 RX8 yX8_refuseBad wsX8_refuseBad) := goodIn_app (goodIn_of _ (by decide +kernel)) ggX8_of_X8_refuseBad
set_option maxRecDepth 20000 in
theorem ggX8_of_X1_aspect : GoodIn wsX8_of wsX1_aspect := goodIn_r _ [20, 21, 22, 23, 24, 3, 4, 5, 6, 7, 25, 26, 27, 28, 38, 39, 40, 41, 42, 43] (by decide +kernel) (by decide +kernel)
set_option maxRecDepth 20000 in
theorem gX8_of_X1_aspect : GoodIn wsX8_of (wsV RX8 104 RX1 yX1_aspect wsX1_aspect) := goodIn_app (goodIn_of _ (by decide +kernel)) ggX8_of_X1_aspect
theorem dX8_of_0 : decode cX8_of 0 = .ok (.aload_n 0, 1) := by decide +kernel
theorem dX8_of_1 : decode cX8_of 1 = .ok (.getfield 12, 3) := by decide +kernel
theorem dX8_of_4 : decode cX8_of 4 = .ok (.iload_n 1, 1) := by decide +kernel
theorem dX8_of_5 : decode cX8_of 5 = .ok (.invokevirtual 64, 3) := by decide +kernel
theorem dX8_of_8 : decode cX8_of 8 = .ok (.ifCond .eq 11, 3) := by decide +kernel
theorem dX8_of_11 : decode cX8_of 11 = .ok (.iload_n 2, 1) := by decide +kernel
theorem dX8_of_12 : decode cX8_of 12 = .ok (.iconst 3, 1) := by decide +kernel
theorem dX8_of_13 : decode cX8_of 13 = .ok (.invokestatic 86, 3) := by decide +kernel
theorem dX8_of_16 : decode cX8_of 16 = .ok (.ifCond .ne 8, 3) := by decide +kernel
theorem dX8_of_19 : decode cX8_of 19 = .ok (.aload_n 0, 1) := by decide +kernel
theorem dX8_of_20 : decode cX8_of 20 = .ok (.invokevirtual 71, 3) := by decide +kernel
theorem dX8_of_23 : decode cX8_of 23 = .ok (.ireturn, 1) := by decide +kernel
theorem dX8_of_24 : decode cX8_of 24 = .ok (.aload_n 0, 1) := by decide +kernel
theorem dX8_of_25 : decode cX8_of 25 = .ok (.getfield 12, 3) := by decide +kernel
theorem dX8_of_28 : decode cX8_of 28 = .ok (.iload_n 1, 1) := by decide +kernel
theorem dX8_of_29 : decode cX8_of 29 = .ok (.iload_n 2, 1) := by decide +kernel
theorem dX8_of_30 : decode cX8_of 30 = .ok (.invokevirtual 104, 3) := by decide +kernel
theorem dX8_of_33 : decode cX8_of 33 = .ok (.ireturn, 1) := by decide +kernel
set_option maxRecDepth 20000 in
theorem ggX8_far_X1_has : GoodIn wsX8_far wsX1_has := goodIn_r _ [6, 7, 28, 29, 30, 31, 32, 33] (by decide +kernel) (by decide +kernel)
set_option maxRecDepth 20000 in
theorem gX8_far_X1_has : GoodIn wsX8_far (wsV RX8 64 RX1 yX1_has wsX1_has) := goodIn_app (goodIn_of _ (by decide +kernel)) ggX8_far_X1_has
set_option maxRecDepth 20000 in
theorem ggX8_far_X8_refuseBad : GoodIn wsX8_far wsX8_refuseBad := goodIn_r _ [12, 13, 19, 20, 21, 22, 23, 24, 25, 26, 27] (by decide +kernel) (by decide +kernel)
set_option maxRecDepth 20000 in
theorem gX8_far_X8_refuseBad : GoodIn wsX8_far (wsV RX8 71 RX8 yX8_refuseBad wsX8_refuseBad) := goodIn_app (goodIn_of _ (by decide +kernel)) ggX8_far_X8_refuseBad
set_option maxRecDepth 20000 in
theorem ggX8_far_X1_gap : GoodIn wsX8_far wsX1_gap := goodIn_r _ [17, 18, 28, 29, 30, 31, 32, 33] (by decide +kernel) (by decide +kernel)
set_option maxRecDepth 20000 in
theorem gX8_far_X1_gap : GoodIn wsX8_far (wsV RX8 107 RX1 yX1_gap wsX1_gap) := goodIn_app (goodIn_of _ (by decide +kernel)) ggX8_far_X1_gap
theorem dX8_far_0 : decode cX8_far 0 = .ok (.aload_n 0, 1) := by decide +kernel
theorem dX8_far_1 : decode cX8_far 1 = .ok (.getfield 12, 3) := by decide +kernel
theorem dX8_far_4 : decode cX8_far 4 = .ok (.iload_n 1, 1) := by decide +kernel
theorem dX8_far_5 : decode cX8_far 5 = .ok (.invokevirtual 64, 3) := by decide +kernel
theorem dX8_far_8 : decode cX8_far 8 = .ok (.ifCond .eq 14, 3) := by decide +kernel
theorem dX8_far_11 : decode cX8_far 11 = .ok (.aload_n 0, 1) := by decide +kernel
theorem dX8_far_12 : decode cX8_far 12 = .ok (.getfield 12, 3) := by decide +kernel
theorem dX8_far_15 : decode cX8_far 15 = .ok (.iload_n 2, 1) := by decide +kernel
theorem dX8_far_16 : decode cX8_far 16 = .ok (.invokevirtual 64, 3) := by decide +kernel
theorem dX8_far_19 : decode cX8_far 19 = .ok (.ifCond .ne 8, 3) := by decide +kernel
theorem dX8_far_22 : decode cX8_far 22 = .ok (.aload_n 0, 1) := by decide +kernel
theorem dX8_far_23 : decode cX8_far 23 = .ok (.invokevirtual 71, 3) := by decide +kernel
theorem dX8_far_26 : decode cX8_far 26 = .ok (.ireturn, 1) := by decide +kernel
theorem dX8_far_27 : decode cX8_far 27 = .ok (.aload_n 0, 1) := by decide +kernel
theorem dX8_far_28 : decode cX8_far 28 = .ok (.getfield 12, 3) := by decide +kernel
theorem dX8_far_31 : decode cX8_far 31 = .ok (.iload_n 1, 1) := by decide +kernel
theorem dX8_far_32 : decode cX8_far 32 = .ok (.iload_n 2, 1) := by decide +kernel
theorem dX8_far_33 : decode cX8_far 33 = .ok (.invokevirtual 107, 3) := by decide +kernel
theorem dX8_far_36 : decode cX8_far 36 = .ok (.ireturn, 1) := by decide +kernel
set_option maxRecDepth 20000 in
theorem ggX8_way_X1_has : GoodIn wsX8_way wsX1_has := goodIn_r _ [9, 10, 40, 41, 42, 43, 44, 45] (by decide +kernel) (by decide +kernel)
set_option maxRecDepth 20000 in
theorem gX8_way_X1_has : GoodIn wsX8_way (wsV RX8 64 RX1 yX1_has wsX1_has) := goodIn_app (goodIn_of _ (by decide +kernel)) ggX8_way_X1_has
set_option maxRecDepth 20000 in
theorem ggX8_way_X8_refuseBadPlace : GoodIn wsX8_way wsX8_refuseBadPlace := goodIn_r _ [15, 16, 27, 28, 29, 30, 31, 32, 33, 34, 35] (by decide +kernel) (by decide +kernel)
set_option maxRecDepth 20000 in
theorem gX8_way_X8_refuseBadPlace : GoodIn wsX8_way (wsV RX8 110 RX8 yX8_refuseBadPlace wsX8_refuseBadPlace) := goodIn_app (goodIn_of _ (by decide +kernel)) ggX8_way_X8_refuseBadPlace
set_option maxRecDepth 20000 in
theorem ggX8_way_X6_walk : GoodIn wsX8_way wsX6_walk := goodIn_r _ [21, 22, 23, 24, 25, 26, 6, 7, 8, 9, 10, 36, 37, 38, 39, 40, 41, 42, 43, 44, 45] (by decide +kernel) (by decide +kernel)
set_option maxRecDepth 20000 in
theorem gX8_way_X6_walk : GoodIn wsX8_way (wsV RX8 113 RX6 yX6_walk wsX6_walk) := goodIn_app (goodIn_of _ (by decide +kernel)) ggX8_way_X6_walk
theorem dX8_way_0 : decode cX8_way 0 = .ok (.aload_n 0, 1) := by decide +kernel
theorem dX8_way_1 : decode cX8_way 1 = .ok (.getfield 12, 3) := by decide +kernel
theorem dX8_way_4 : decode cX8_way 4 = .ok (.iload_n 1, 1) := by decide +kernel
theorem dX8_way_5 : decode cX8_way 5 = .ok (.invokevirtual 64, 3) := by decide +kernel
theorem dX8_way_8 : decode cX8_way 8 = .ok (.ifCond .eq 19, 3) := by decide +kernel
theorem dX8_way_11 : decode cX8_way 11 = .ok (.aload_n 0, 1) := by decide +kernel
theorem dX8_way_12 : decode cX8_way 12 = .ok (.getfield 12, 3) := by decide +kernel
theorem dX8_way_15 : decode cX8_way 15 = .ok (.iload_n 2, 1) := by decide +kernel
theorem dX8_way_16 : decode cX8_way 16 = .ok (.invokevirtual 64, 3) := by decide +kernel
theorem dX8_way_19 : decode cX8_way 19 = .ok (.ifCond .eq 8, 3) := by decide +kernel
theorem dX8_way_22 : decode cX8_way 22 = .ok (.iload_n 3, 1) := by decide +kernel
theorem dX8_way_23 : decode cX8_way 23 = .ok (.iconst (-1), 1) := by decide +kernel
theorem dX8_way_24 : decode cX8_way 24 = .ok (.if_icmp .ge 8, 3) := by decide +kernel
theorem dX8_way_27 : decode cX8_way 27 = .ok (.aload_n 0, 1) := by decide +kernel
theorem dX8_way_28 : decode cX8_way 28 = .ok (.invokevirtual 110, 3) := by decide +kernel
theorem dX8_way_31 : decode cX8_way 31 = .ok (.ireturn, 1) := by decide +kernel
theorem dX8_way_32 : decode cX8_way 32 = .ok (.aload_n 0, 1) := by decide +kernel
theorem dX8_way_33 : decode cX8_way 33 = .ok (.getfield 21, 3) := by decide +kernel
theorem dX8_way_36 : decode cX8_way 36 = .ok (.iload_n 1, 1) := by decide +kernel
theorem dX8_way_37 : decode cX8_way 37 = .ok (.iload_n 2, 1) := by decide +kernel
theorem dX8_way_38 : decode cX8_way 38 = .ok (.invokevirtual 113, 3) := by decide +kernel
theorem dX8_way_41 : decode cX8_way 41 = .ok (.iload_n 3, 1) := by decide +kernel
theorem dX8_way_42 : decode cX8_way 42 = .ok (.iconst (-1), 1) := by decide +kernel
theorem dX8_way_43 : decode cX8_way 43 = .ok (.if_icmp .ne 11, 3) := by decide +kernel
theorem dX8_way_46 : decode cX8_way 46 = .ok (.aload_n 0, 1) := by decide +kernel
theorem dX8_way_47 : decode cX8_way 47 = .ok (.getfield 21, 3) := by decide +kernel
theorem dX8_way_50 : decode cX8_way 50 = .ok (.getfield 117, 3) := by decide +kernel
theorem dX8_way_53 : decode cX8_way 53 = .ok (.ireturn, 1) := by decide +kernel
theorem dX8_way_54 : decode cX8_way 54 = .ok (.iload_n 3, 1) := by decide +kernel
theorem dX8_way_55 : decode cX8_way 55 = .ok (.aload_n 0, 1) := by decide +kernel
theorem dX8_way_56 : decode cX8_way 56 = .ok (.getfield 21, 3) := by decide +kernel
theorem dX8_way_59 : decode cX8_way 59 = .ok (.getfield 117, 3) := by decide +kernel
theorem dX8_way_62 : decode cX8_way 62 = .ok (.if_icmp .ge 15, 3) := by decide +kernel
theorem dX8_way_65 : decode cX8_way 65 = .ok (.aload_n 0, 1) := by decide +kernel
theorem dX8_way_66 : decode cX8_way 66 = .ok (.getfield 21, 3) := by decide +kernel
theorem dX8_way_69 : decode cX8_way 69 = .ok (.getfield 120, 3) := by decide +kernel
theorem dX8_way_72 : decode cX8_way 72 = .ok (.iload_n 3, 1) := by decide +kernel
theorem dX8_way_73 : decode cX8_way 73 = .ok (.iaload, 1) := by decide +kernel
theorem dX8_way_74 : decode cX8_way 74 = .ok (.goto 5, 3) := by decide +kernel
theorem dX8_way_77 : decode cX8_way 77 = .ok (.bipush (-5), 2) := by decide +kernel
theorem dX8_way_79 : decode cX8_way 79 = .ok (.ireturn, 1) := by decide +kernel
set_option maxRecDepth 20000 in
theorem ggX8_longest_X8_isUpTo : GoodIn wsX8_longest wsX8_isUpTo := goodIn_r _ [5] (by decide +kernel) (by decide +kernel)
set_option maxRecDepth 20000 in
theorem gX8_longest_X8_isUpTo : GoodIn wsX8_longest (va_wsS RX8 86 yX8_isUpTo wsX8_isUpTo) := goodIn_app (goodIn_of _ (by decide +kernel)) ggX8_longest_X8_isUpTo
set_option maxRecDepth 20000 in
theorem ggX8_longest_X8_refuseBad : GoodIn wsX8_longest wsX8_refuseBad := goodIn_r _ [9, 10, 24, 25, 26, 27, 28, 29, 30, 31, 32] (by decide +kernel) (by decide +kernel)
set_option maxRecDepth 20000 in
theorem gX8_longest_X8_refuseBad : GoodIn wsX8_longest (wsV RX8 71 RX8 yX8_refuseBad wsX8_refuseBad) := goodIn_app (goodIn_of _ (by decide +kernel)) ggX8_longest_X8_refuseBad
set_option maxRecDepth 20000 in
theorem ggX8_longest_X6_span : GoodIn wsX8_longest wsX6_span := goodIn_r _ [15, 16, 17, 18, 19, 20, 21, 22, 23, 33, 34, 35, 36, 37, 38, 39, 40, 41, 42] (by decide +kernel) (by decide +kernel)
set_option maxRecDepth 20000 in
theorem gX8_longest_X6_span : GoodIn wsX8_longest (wsV RX8 124 RX6 yX6_span wsX6_span) := goodIn_app (goodIn_of _ (by decide +kernel)) ggX8_longest_X6_span
theorem dX8_longest_0 : decode cX8_longest 0 = .ok (.iload_n 1, 1) := by decide +kernel
theorem dX8_longest_1 : decode cX8_longest 1 = .ok (.iconst 2, 1) := by decide +kernel
theorem dX8_longest_2 : decode cX8_longest 2 = .ok (.invokestatic 86, 3) := by decide +kernel
theorem dX8_longest_5 : decode cX8_longest 5 = .ok (.ifCond .ne 8, 3) := by decide +kernel
theorem dX8_longest_8 : decode cX8_longest 8 = .ok (.aload_n 0, 1) := by decide +kernel
theorem dX8_longest_9 : decode cX8_longest 9 = .ok (.invokevirtual 71, 3) := by decide +kernel
theorem dX8_longest_12 : decode cX8_longest 12 = .ok (.ireturn, 1) := by decide +kernel
theorem dX8_longest_13 : decode cX8_longest 13 = .ok (.aload_n 0, 1) := by decide +kernel
theorem dX8_longest_14 : decode cX8_longest 14 = .ok (.getfield 21, 3) := by decide +kernel
theorem dX8_longest_17 : decode cX8_longest 17 = .ok (.iload_n 1, 1) := by decide +kernel
theorem dX8_longest_18 : decode cX8_longest 18 = .ok (.invokevirtual 124, 3) := by decide +kernel
theorem dX8_longest_21 : decode cX8_longest 21 = .ok (.ireturn, 1) := by decide +kernel
set_option maxRecDepth 20000 in
theorem ggX8_middle_X8_isUpTo : GoodIn wsX8_middle wsX8_isUpTo := goodIn_r _ [5] (by decide +kernel) (by decide +kernel)
set_option maxRecDepth 20000 in
theorem gX8_middle_X8_isUpTo : GoodIn wsX8_middle (va_wsS RX8 86 yX8_isUpTo wsX8_isUpTo) := goodIn_app (goodIn_of _ (by decide +kernel)) ggX8_middle_X8_isUpTo
set_option maxRecDepth 20000 in
theorem ggX8_middle_X8_refuseBad : GoodIn wsX8_middle wsX8_refuseBad := goodIn_r _ [9, 10, 55, 56, 57, 58, 59, 60, 61, 62, 63] (by decide +kernel) (by decide +kernel)
set_option maxRecDepth 20000 in
theorem gX8_middle_X8_refuseBad : GoodIn wsX8_middle (wsV RX8 71 RX8 yX8_refuseBad wsX8_refuseBad) := goodIn_app (goodIn_of _ (by decide +kernel)) ggX8_middle_X8_refuseBad
set_option maxRecDepth 20000 in
theorem ggX8_middle_X6_heart : GoodIn wsX8_middle wsX6_heart := goodIn_r _ [15, 16, 17, 18, 19, 20, 14, 21, 22, 23, 24, 25, 26, 27, 28, 29, 30, 31, 32, 33, 34, 35, 36, 37, 38, 39, 40, 41, 42, 43, 44, 45, 46, 47, 48, 49, 50, 51, 52, 53, 54, 64, 65, 66, 67, 68, 69, 70, 71, 72, 73] (by decide +kernel) (by decide +kernel)
set_option maxRecDepth 20000 in
theorem gX8_middle_X6_heart : GoodIn wsX8_middle (wsV RX8 128 RX6 yX6_heart wsX6_heart) := goodIn_app (goodIn_of _ (by decide +kernel)) ggX8_middle_X6_heart
theorem dX8_middle_0 : decode cX8_middle 0 = .ok (.iload_n 1, 1) := by decide +kernel
theorem dX8_middle_1 : decode cX8_middle 1 = .ok (.iconst 2, 1) := by decide +kernel
theorem dX8_middle_2 : decode cX8_middle 2 = .ok (.invokestatic 86, 3) := by decide +kernel
theorem dX8_middle_5 : decode cX8_middle 5 = .ok (.ifCond .ne 8, 3) := by decide +kernel
theorem dX8_middle_8 : decode cX8_middle 8 = .ok (.aload_n 0, 1) := by decide +kernel
theorem dX8_middle_9 : decode cX8_middle 9 = .ok (.invokevirtual 71, 3) := by decide +kernel
theorem dX8_middle_12 : decode cX8_middle 12 = .ok (.ireturn, 1) := by decide +kernel
theorem dX8_middle_13 : decode cX8_middle 13 = .ok (.aload_n 0, 1) := by decide +kernel
theorem dX8_middle_14 : decode cX8_middle 14 = .ok (.getfield 21, 3) := by decide +kernel
theorem dX8_middle_17 : decode cX8_middle 17 = .ok (.iload_n 1, 1) := by decide +kernel
theorem dX8_middle_18 : decode cX8_middle 18 = .ok (.invokevirtual 128, 3) := by decide +kernel
theorem dX8_middle_21 : decode cX8_middle 21 = .ok (.ireturn, 1) := by decide +kernel
set_option maxRecDepth 20000 in
theorem ggX8_nearest_X1_has : GoodIn wsX8_nearest wsX1_has := goodIn_r _ [7, 8, 46, 47, 48, 49, 50, 51] (by decide +kernel) (by decide +kernel)
set_option maxRecDepth 20000 in
theorem gX8_nearest_X1_has : GoodIn wsX8_nearest (wsV RX8 64 RX1 yX1_has wsX1_has) := goodIn_app (goodIn_of _ (by decide +kernel)) ggX8_nearest_X1_has
set_option maxRecDepth 20000 in
theorem ggX8_nearest_X8_isUpTo : GoodIn wsX8_nearest wsX8_isUpTo := goodIn_r _ [12] (by decide +kernel) (by decide +kernel)
set_option maxRecDepth 20000 in
theorem gX8_nearest_X8_isUpTo : GoodIn wsX8_nearest (va_wsS RX8 86 yX8_isUpTo wsX8_isUpTo) := goodIn_app (goodIn_of _ (by decide +kernel)) ggX8_nearest_X8_isUpTo
set_option maxRecDepth 20000 in
theorem ggX8_nearest_X8_refuseBad : GoodIn wsX8_nearest wsX8_refuseBad := goodIn_r _ [16, 17, 37, 38, 39, 40, 41, 42, 43, 44, 45] (by decide +kernel) (by decide +kernel)
set_option maxRecDepth 20000 in
theorem gX8_nearest_X8_refuseBad : GoodIn wsX8_nearest (wsV RX8 71 RX8 yX8_refuseBad wsX8_refuseBad) := goodIn_app (goodIn_of _ (by decide +kernel)) ggX8_nearest_X8_refuseBad
set_option maxRecDepth 20000 in
theorem ggX8_nearest_X0_closest : GoodIn wsX8_nearest wsX0_closest := goodIn_r _ [22, 23, 24, 25, 26, 27, 28, 29, 6, 30, 31, 52, 53, 46, 47, 48, 49, 50, 51] (by decide +kernel) (by decide +kernel)
set_option maxRecDepth 20000 in
theorem gX8_nearest_X0_closest : GoodIn wsX8_nearest (wsV RX8 131 RX0 yX0_closest wsX0_closest) := goodIn_app (goodIn_of _ (by decide +kernel)) ggX8_nearest_X0_closest
set_option maxRecDepth 20000 in
theorem ggX8_nearest_X8_whichOrFar : GoodIn wsX8_nearest wsX8_whichOrFar := goodIn_r _ [35, 1, 36, 28, 29, 6, 30, 31, 37, 38, 39, 40, 41, 42, 43, 44, 45, 46, 47, 48, 49, 50, 51] (by decide +kernel) (by decide +kernel)
set_option maxRecDepth 20000 in
theorem gX8_nearest_X8_whichOrFar : GoodIn wsX8_nearest (wsV RX8 134 RX8 yX8_whichOrFar wsX8_whichOrFar) := goodIn_app (goodIn_of _ (by decide +kernel)) ggX8_nearest_X8_whichOrFar
theorem dX8_nearest_0 : decode cX8_nearest 0 = .ok (.aload_n 0, 1) := by decide +kernel
theorem dX8_nearest_1 : decode cX8_nearest 1 = .ok (.getfield 12, 3) := by decide +kernel
theorem dX8_nearest_4 : decode cX8_nearest 4 = .ok (.iload_n 1, 1) := by decide +kernel
theorem dX8_nearest_5 : decode cX8_nearest 5 = .ok (.invokevirtual 64, 3) := by decide +kernel
theorem dX8_nearest_8 : decode cX8_nearest 8 = .ok (.ifCond .eq 11, 3) := by decide +kernel
theorem dX8_nearest_11 : decode cX8_nearest 11 = .ok (.iload_n 2, 1) := by decide +kernel
theorem dX8_nearest_12 : decode cX8_nearest 12 = .ok (.iconst 1, 1) := by decide +kernel
theorem dX8_nearest_13 : decode cX8_nearest 13 = .ok (.invokestatic 86, 3) := by decide +kernel
theorem dX8_nearest_16 : decode cX8_nearest 16 = .ok (.ifCond .ne 8, 3) := by decide +kernel
theorem dX8_nearest_19 : decode cX8_nearest 19 = .ok (.aload_n 0, 1) := by decide +kernel
theorem dX8_nearest_20 : decode cX8_nearest 20 = .ok (.invokevirtual 71, 3) := by decide +kernel
theorem dX8_nearest_23 : decode cX8_nearest 23 = .ok (.ireturn, 1) := by decide +kernel
theorem dX8_nearest_24 : decode cX8_nearest 24 = .ok (.aload_n 0, 1) := by decide +kernel
theorem dX8_nearest_25 : decode cX8_nearest 25 = .ok (.iload_n 1, 1) := by decide +kernel
theorem dX8_nearest_26 : decode cX8_nearest 26 = .ok (.aload_n 0, 1) := by decide +kernel
theorem dX8_nearest_27 : decode cX8_nearest 27 = .ok (.getfield 28, 3) := by decide +kernel
theorem dX8_nearest_30 : decode cX8_nearest 30 = .ok (.iload_n 1, 1) := by decide +kernel
theorem dX8_nearest_31 : decode cX8_nearest 31 = .ok (.invokevirtual 131, 3) := by decide +kernel
theorem dX8_nearest_34 : decode cX8_nearest 34 = .ok (.iload_n 2, 1) := by decide +kernel
theorem dX8_nearest_35 : decode cX8_nearest 35 = .ok (.invokevirtual 134, 3) := by decide +kernel
theorem dX8_nearest_38 : decode cX8_nearest 38 = .ok (.ireturn, 1) := by decide +kernel
set_option maxRecDepth 20000 in
theorem ggX8_turn_X1_has : GoodIn wsX8_turn wsX1_has := goodIn_r _ [7, 8, 49, 50, 51, 52, 53, 54] (by decide +kernel) (by decide +kernel)
set_option maxRecDepth 20000 in
theorem gX8_turn_X1_has : GoodIn wsX8_turn (wsV RX8 64 RX1 yX1_has wsX1_has) := goodIn_app (goodIn_of _ (by decide +kernel)) ggX8_turn_X1_has
set_option maxRecDepth 20000 in
theorem ggX8_turn_X8_isUpTo : GoodIn wsX8_turn wsX8_isUpTo := goodIn_r _ [12] (by decide +kernel) (by decide +kernel)
set_option maxRecDepth 20000 in
theorem gX8_turn_X8_isUpTo : GoodIn wsX8_turn (va_wsS RX8 86 yX8_isUpTo wsX8_isUpTo) := goodIn_app (goodIn_of _ (by decide +kernel)) ggX8_turn_X8_isUpTo
set_option maxRecDepth 20000 in
theorem ggX8_turn_X8_refuseBad : GoodIn wsX8_turn wsX8_refuseBad := goodIn_r _ [16, 17, 40, 41, 42, 43, 44, 45, 46, 47, 48] (by decide +kernel) (by decide +kernel)
set_option maxRecDepth 20000 in
theorem gX8_turn_X8_refuseBad : GoodIn wsX8_turn (wsV RX8 71 RX8 yX8_refuseBad wsX8_refuseBad) := goodIn_app (goodIn_of _ (by decide +kernel)) ggX8_turn_X8_refuseBad
set_option maxRecDepth 20000 in
theorem ggX8_turn_X0_ranked : GoodIn wsX8_turn wsX0_ranked := goodIn_r _ [22, 23, 24, 25, 26, 27, 28, 21, 29, 30, 31, 32, 6, 33, 34, 55, 56, 49, 50, 51, 52, 53, 54] (by decide +kernel) (by decide +kernel)
set_option maxRecDepth 20000 in
theorem gX8_turn_X0_ranked : GoodIn wsX8_turn (wsV RX8 138 RX0 yX0_ranked wsX0_ranked) := goodIn_app (goodIn_of _ (by decide +kernel)) ggX8_turn_X0_ranked
set_option maxRecDepth 20000 in
theorem ggX8_turn_X8_whichOrFar : GoodIn wsX8_turn wsX8_whichOrFar := goodIn_r _ [38, 1, 39, 31, 32, 6, 33, 34, 40, 41, 42, 43, 44, 45, 46, 47, 48, 49, 50, 51, 52, 53, 54] (by decide +kernel) (by decide +kernel)
set_option maxRecDepth 20000 in
theorem gX8_turn_X8_whichOrFar : GoodIn wsX8_turn (wsV RX8 134 RX8 yX8_whichOrFar wsX8_whichOrFar) := goodIn_app (goodIn_of _ (by decide +kernel)) ggX8_turn_X8_whichOrFar
theorem dX8_turn_0 : decode cX8_turn 0 = .ok (.aload_n 0, 1) := by decide +kernel
theorem dX8_turn_1 : decode cX8_turn 1 = .ok (.getfield 12, 3) := by decide +kernel
theorem dX8_turn_4 : decode cX8_turn 4 = .ok (.iload_n 1, 1) := by decide +kernel
theorem dX8_turn_5 : decode cX8_turn 5 = .ok (.invokevirtual 64, 3) := by decide +kernel
theorem dX8_turn_8 : decode cX8_turn 8 = .ok (.ifCond .eq 15, 3) := by decide +kernel
theorem dX8_turn_11 : decode cX8_turn 11 = .ok (.iload_n 2, 1) := by decide +kernel
theorem dX8_turn_12 : decode cX8_turn 12 = .ok (.ifCond .lt 11, 3) := by decide +kernel
theorem dX8_turn_15 : decode cX8_turn 15 = .ok (.iload_n 3, 1) := by decide +kernel
theorem dX8_turn_16 : decode cX8_turn 16 = .ok (.iconst 1, 1) := by decide +kernel
theorem dX8_turn_17 : decode cX8_turn 17 = .ok (.invokestatic 86, 3) := by decide +kernel
theorem dX8_turn_20 : decode cX8_turn 20 = .ok (.ifCond .ne 8, 3) := by decide +kernel
theorem dX8_turn_23 : decode cX8_turn 23 = .ok (.aload_n 0, 1) := by decide +kernel
theorem dX8_turn_24 : decode cX8_turn 24 = .ok (.invokevirtual 71, 3) := by decide +kernel
theorem dX8_turn_27 : decode cX8_turn 27 = .ok (.ireturn, 1) := by decide +kernel
theorem dX8_turn_28 : decode cX8_turn 28 = .ok (.aload_n 0, 1) := by decide +kernel
theorem dX8_turn_29 : decode cX8_turn 29 = .ok (.iload_n 1, 1) := by decide +kernel
theorem dX8_turn_30 : decode cX8_turn 30 = .ok (.aload_n 0, 1) := by decide +kernel
theorem dX8_turn_31 : decode cX8_turn 31 = .ok (.getfield 28, 3) := by decide +kernel
theorem dX8_turn_34 : decode cX8_turn 34 = .ok (.iload_n 1, 1) := by decide +kernel
theorem dX8_turn_35 : decode cX8_turn 35 = .ok (.iload_n 2, 1) := by decide +kernel
theorem dX8_turn_36 : decode cX8_turn 36 = .ok (.invokevirtual 138, 3) := by decide +kernel
theorem dX8_turn_39 : decode cX8_turn 39 = .ok (.iload_n 3, 1) := by decide +kernel
theorem dX8_turn_40 : decode cX8_turn 40 = .ok (.invokevirtual 134, 3) := by decide +kernel
theorem dX8_turn_43 : decode cX8_turn 43 = .ok (.ireturn, 1) := by decide +kernel
set_option maxRecDepth 20000 in
theorem ggX8_within_X1_has : GoodIn wsX8_within wsX1_has := goodIn_r _ [7, 8, 40, 41, 42, 43, 44, 45] (by decide +kernel) (by decide +kernel)
set_option maxRecDepth 20000 in
theorem gX8_within_X1_has : GoodIn wsX8_within (wsV RX8 64 RX1 yX1_has wsX1_has) := goodIn_app (goodIn_of _ (by decide +kernel)) ggX8_within_X1_has
set_option maxRecDepth 20000 in
theorem ggX8_within_X8_isUpTo : GoodIn wsX8_within wsX8_isUpTo := goodIn_r _ [12] (by decide +kernel) (by decide +kernel)
set_option maxRecDepth 20000 in
theorem gX8_within_X8_isUpTo : GoodIn wsX8_within (va_wsS RX8 86 yX8_isUpTo wsX8_isUpTo) := goodIn_app (goodIn_of _ (by decide +kernel)) ggX8_within_X8_isUpTo
set_option maxRecDepth 20000 in
theorem ggX8_within_X8_refuseBad : GoodIn wsX8_within wsX8_refuseBad := goodIn_r _ [16, 17, 31, 32, 33, 34, 35, 36, 37, 38, 39] (by decide +kernel) (by decide +kernel)
set_option maxRecDepth 20000 in
theorem gX8_within_X8_refuseBad : GoodIn wsX8_within (wsV RX8 71 RX8 yX8_refuseBad wsX8_refuseBad) := goodIn_app (goodIn_of _ (by decide +kernel)) ggX8_within_X8_refuseBad
set_option maxRecDepth 20000 in
theorem ggX8_within_X0_countWithin : GoodIn wsX8_within wsX0_countWithin := goodIn_r _ [22, 23, 24, 25, 26, 27, 28, 6, 29, 30, 46, 47, 40, 41, 42, 43, 44, 45] (by decide +kernel) (by decide +kernel)
set_option maxRecDepth 20000 in
theorem gX8_within_X0_countWithin : GoodIn wsX8_within (wsV RX8 141 RX0 yX0_countWithin wsX0_countWithin) := goodIn_app (goodIn_of _ (by decide +kernel)) ggX8_within_X0_countWithin
theorem dX8_within_0 : decode cX8_within 0 = .ok (.aload_n 0, 1) := by decide +kernel
theorem dX8_within_1 : decode cX8_within 1 = .ok (.getfield 12, 3) := by decide +kernel
theorem dX8_within_4 : decode cX8_within 4 = .ok (.iload_n 1, 1) := by decide +kernel
theorem dX8_within_5 : decode cX8_within 5 = .ok (.invokevirtual 64, 3) := by decide +kernel
theorem dX8_within_8 : decode cX8_within 8 = .ok (.ifCond .eq 13, 3) := by decide +kernel
theorem dX8_within_11 : decode cX8_within 11 = .ok (.iload_n 2, 1) := by decide +kernel
theorem dX8_within_12 : decode cX8_within 12 = .ok (.sipush 6000, 3) := by decide +kernel
theorem dX8_within_15 : decode cX8_within 15 = .ok (.invokestatic 86, 3) := by decide +kernel
theorem dX8_within_18 : decode cX8_within 18 = .ok (.ifCond .ne 8, 3) := by decide +kernel
theorem dX8_within_21 : decode cX8_within 21 = .ok (.aload_n 0, 1) := by decide +kernel
theorem dX8_within_22 : decode cX8_within 22 = .ok (.invokevirtual 71, 3) := by decide +kernel
theorem dX8_within_25 : decode cX8_within 25 = .ok (.ireturn, 1) := by decide +kernel
theorem dX8_within_26 : decode cX8_within 26 = .ok (.aload_n 0, 1) := by decide +kernel
theorem dX8_within_27 : decode cX8_within 27 = .ok (.getfield 28, 3) := by decide +kernel
theorem dX8_within_30 : decode cX8_within 30 = .ok (.iload_n 1, 1) := by decide +kernel
theorem dX8_within_31 : decode cX8_within 31 = .ok (.iload_n 2, 1) := by decide +kernel
theorem dX8_within_32 : decode cX8_within 32 = .ok (.invokevirtual 141, 3) := by decide +kernel
theorem dX8_within_35 : decode cX8_within 35 = .ok (.ireturn, 1) := by decide +kernel
set_option maxRecDepth 20000 in
theorem ggX8_sum_X1_has : GoodIn wsX8_sum wsX1_has := goodIn_r _ [7, 8, 37, 38, 39, 40, 41, 42] (by decide +kernel) (by decide +kernel)
set_option maxRecDepth 20000 in
theorem gX8_sum_X1_has : GoodIn wsX8_sum (wsV RX8 64 RX1 yX1_has wsX1_has) := goodIn_app (goodIn_of _ (by decide +kernel)) ggX8_sum_X1_has
set_option maxRecDepth 20000 in
theorem ggX8_sum_X8_refuseBad : GoodIn wsX8_sum wsX8_refuseBad := goodIn_r _ [13, 14, 28, 29, 30, 31, 32, 33, 34, 35, 36] (by decide +kernel) (by decide +kernel)
set_option maxRecDepth 20000 in
theorem gX8_sum_X8_refuseBad : GoodIn wsX8_sum (wsV RX8 71 RX8 yX8_refuseBad wsX8_refuseBad) := goodIn_app (goodIn_of _ (by decide +kernel)) ggX8_sum_X8_refuseBad
set_option maxRecDepth 20000 in
theorem ggX8_sum_X0_total : GoodIn wsX8_sum wsX0_total := goodIn_r _ [19, 20, 21, 22, 23, 24, 25, 6, 26, 27, 43, 44, 37, 38, 39, 40, 41, 42] (by decide +kernel) (by decide +kernel)
set_option maxRecDepth 20000 in
theorem gX8_sum_X0_total : GoodIn wsX8_sum (wsV RX8 144 RX0 yX0_total wsX0_total) := goodIn_app (goodIn_of _ (by decide +kernel)) ggX8_sum_X0_total
theorem dX8_sum_0 : decode cX8_sum 0 = .ok (.aload_n 0, 1) := by decide +kernel
theorem dX8_sum_1 : decode cX8_sum 1 = .ok (.getfield 12, 3) := by decide +kernel
theorem dX8_sum_4 : decode cX8_sum 4 = .ok (.iload_n 1, 1) := by decide +kernel
theorem dX8_sum_5 : decode cX8_sum 5 = .ok (.invokevirtual 64, 3) := by decide +kernel
theorem dX8_sum_8 : decode cX8_sum 8 = .ok (.ifCond .ne 8, 3) := by decide +kernel
theorem dX8_sum_11 : decode cX8_sum 11 = .ok (.aload_n 0, 1) := by decide +kernel
theorem dX8_sum_12 : decode cX8_sum 12 = .ok (.invokevirtual 71, 3) := by decide +kernel
theorem dX8_sum_15 : decode cX8_sum 15 = .ok (.ireturn, 1) := by decide +kernel
theorem dX8_sum_16 : decode cX8_sum 16 = .ok (.aload_n 0, 1) := by decide +kernel
theorem dX8_sum_17 : decode cX8_sum 17 = .ok (.getfield 28, 3) := by decide +kernel
theorem dX8_sum_20 : decode cX8_sum 20 = .ok (.iload_n 1, 1) := by decide +kernel
theorem dX8_sum_21 : decode cX8_sum 21 = .ok (.invokevirtual 144, 3) := by decide +kernel
theorem dX8_sum_24 : decode cX8_sum 24 = .ok (.ireturn, 1) := by decide +kernel
set_option maxRecDepth 20000 in
theorem ggX8_left_X8_isUpTo : GoodIn wsX8_left wsX8_isUpTo := goodIn_r _ [5] (by decide +kernel) (by decide +kernel)
set_option maxRecDepth 20000 in
theorem gX8_left_X8_isUpTo : GoodIn wsX8_left (va_wsS RX8 86 yX8_isUpTo wsX8_isUpTo) := goodIn_app (goodIn_of _ (by decide +kernel)) ggX8_left_X8_isUpTo
set_option maxRecDepth 20000 in
theorem ggX8_left_X8_refuseBad : GoodIn wsX8_left wsX8_refuseBad := goodIn_r _ [9, 10, 36, 37, 38, 39, 40, 41, 42, 43, 44] (by decide +kernel) (by decide +kernel)
set_option maxRecDepth 20000 in
theorem gX8_left_X8_refuseBad : GoodIn wsX8_left (wsV RX8 71 RX8 yX8_refuseBad wsX8_refuseBad) := goodIn_app (goodIn_of _ (by decide +kernel)) ggX8_left_X8_refuseBad
set_option maxRecDepth 20000 in
theorem ggX8_left_X0_remotest : GoodIn wsX8_left wsX0_remotest := goodIn_r _ [15, 16, 17, 18, 19, 20, 21, 22, 14, 23, 24, 25, 26, 27, 28, 29, 30, 31, 32, 33, 34, 35, 45, 46, 47, 48, 49, 50, 51, 52] (by decide +kernel) (by decide +kernel)
set_option maxRecDepth 20000 in
theorem gX8_left_X0_remotest : GoodIn wsX8_left (wsV RX8 147 RX0 yX0_remotest wsX0_remotest) := goodIn_app (goodIn_of _ (by decide +kernel)) ggX8_left_X0_remotest
theorem dX8_left_0 : decode cX8_left 0 = .ok (.iload_n 1, 1) := by decide +kernel
theorem dX8_left_1 : decode cX8_left 1 = .ok (.iconst 1, 1) := by decide +kernel
theorem dX8_left_2 : decode cX8_left 2 = .ok (.invokestatic 86, 3) := by decide +kernel
theorem dX8_left_5 : decode cX8_left 5 = .ok (.ifCond .ne 8, 3) := by decide +kernel
theorem dX8_left_8 : decode cX8_left 8 = .ok (.aload_n 0, 1) := by decide +kernel
theorem dX8_left_9 : decode cX8_left 9 = .ok (.invokevirtual 71, 3) := by decide +kernel
theorem dX8_left_12 : decode cX8_left 12 = .ok (.ireturn, 1) := by decide +kernel
theorem dX8_left_13 : decode cX8_left 13 = .ok (.aload_n 0, 1) := by decide +kernel
theorem dX8_left_14 : decode cX8_left 14 = .ok (.getfield 28, 3) := by decide +kernel
theorem dX8_left_17 : decode cX8_left 17 = .ok (.iload_n 1, 1) := by decide +kernel
theorem dX8_left_18 : decode cX8_left 18 = .ok (.invokevirtual 147, 3) := by decide +kernel
theorem dX8_left_21 : decode cX8_left 21 = .ok (.ireturn, 1) := by decide +kernel
set_option maxRecDepth 20000 in
theorem ggX8_more_X8_isUpTo : GoodIn wsX8_more wsX8_isUpTo := goodIn_r _ [5] (by decide +kernel) (by decide +kernel)
set_option maxRecDepth 20000 in
theorem gX8_more_X8_isUpTo : GoodIn wsX8_more (va_wsS RX8 86 yX8_isUpTo wsX8_isUpTo) := goodIn_app (goodIn_of _ (by decide +kernel)) ggX8_more_X8_isUpTo
set_option maxRecDepth 20000 in
theorem ggX8_more_X8_refuseBad : GoodIn wsX8_more wsX8_refuseBad := goodIn_r _ [9, 10, 46, 47, 48, 49, 50, 51, 52, 53, 54] (by decide +kernel) (by decide +kernel)
set_option maxRecDepth 20000 in
theorem gX8_more_X8_refuseBad : GoodIn wsX8_more (wsV RX8 71 RX8 yX8_refuseBad wsX8_refuseBad) := goodIn_app (goodIn_of _ (by decide +kernel)) ggX8_more_X8_refuseBad
set_option maxRecDepth 20000 in
theorem ggX8_more_X0_bestNew : GoodIn wsX8_more wsX0_bestNew := goodIn_r _ [15, 16, 17, 18, 19, 20, 21, 22, 14, 23, 24, 25, 26, 27, 28, 29, 30, 31, 32, 33, 34, 35, 36, 37, 38, 39, 40, 41, 42, 43, 44, 45, 55, 56, 57, 58, 59, 60, 61, 62] (by decide +kernel) (by decide +kernel)
set_option maxRecDepth 20000 in
theorem gX8_more_X0_bestNew : GoodIn wsX8_more (wsV RX8 150 RX0 yX0_bestNew wsX0_bestNew) := goodIn_app (goodIn_of _ (by decide +kernel)) ggX8_more_X0_bestNew
theorem dX8_more_0 : decode cX8_more 0 = .ok (.iload_n 1, 1) := by decide +kernel
theorem dX8_more_1 : decode cX8_more 1 = .ok (.iconst 1, 1) := by decide +kernel
theorem dX8_more_2 : decode cX8_more 2 = .ok (.invokestatic 86, 3) := by decide +kernel
theorem dX8_more_5 : decode cX8_more 5 = .ok (.ifCond .ne 8, 3) := by decide +kernel
theorem dX8_more_8 : decode cX8_more 8 = .ok (.aload_n 0, 1) := by decide +kernel
theorem dX8_more_9 : decode cX8_more 9 = .ok (.invokevirtual 71, 3) := by decide +kernel
theorem dX8_more_12 : decode cX8_more 12 = .ok (.ireturn, 1) := by decide +kernel
theorem dX8_more_13 : decode cX8_more 13 = .ok (.aload_n 0, 1) := by decide +kernel
theorem dX8_more_14 : decode cX8_more 14 = .ok (.getfield 28, 3) := by decide +kernel
theorem dX8_more_17 : decode cX8_more 17 = .ok (.iload_n 1, 1) := by decide +kernel
theorem dX8_more_18 : decode cX8_more 18 = .ok (.invokevirtual 150, 3) := by decide +kernel
theorem dX8_more_21 : decode cX8_more 21 = .ok (.ireturn, 1) := by decide +kernel
set_option maxRecDepth 20000 in
theorem ggX8_serves_X1_has : GoodIn wsX8_serves wsX1_has := goodIn_r _ [7, 8, 41, 42, 43, 44, 45, 46] (by decide +kernel) (by decide +kernel)
set_option maxRecDepth 20000 in
theorem gX8_serves_X1_has : GoodIn wsX8_serves (wsV RX8 64 RX1 yX1_has wsX1_has) := goodIn_app (goodIn_of _ (by decide +kernel)) ggX8_serves_X1_has
set_option maxRecDepth 20000 in
theorem ggX8_serves_X8_refuseBad : GoodIn wsX8_serves wsX8_refuseBad := goodIn_r _ [13, 14, 32, 33, 34, 35, 36, 37, 38, 39, 40] (by decide +kernel) (by decide +kernel)
set_option maxRecDepth 20000 in
theorem gX8_serves_X8_refuseBad : GoodIn wsX8_serves (wsV RX8 71 RX8 yX8_refuseBad wsX8_refuseBad) := goodIn_app (goodIn_of _ (by decide +kernel)) ggX8_serves_X8_refuseBad
set_option maxRecDepth 20000 in
theorem ggX8_serves_X0_countServed : GoodIn wsX8_serves wsX0_countServed := goodIn_r _ [19, 20, 21, 22, 23, 24, 18, 25, 26, 27, 28, 29, 6, 30, 31, 47, 48, 41, 42, 43, 44, 45, 46] (by decide +kernel) (by decide +kernel)
set_option maxRecDepth 20000 in
theorem gX8_serves_X0_countServed : GoodIn wsX8_serves (wsV RX8 153 RX0 yX0_countServed wsX0_countServed) := goodIn_app (goodIn_of _ (by decide +kernel)) ggX8_serves_X0_countServed
theorem dX8_serves_0 : decode cX8_serves 0 = .ok (.aload_n 0, 1) := by decide +kernel
theorem dX8_serves_1 : decode cX8_serves 1 = .ok (.getfield 12, 3) := by decide +kernel
theorem dX8_serves_4 : decode cX8_serves 4 = .ok (.iload_n 1, 1) := by decide +kernel
theorem dX8_serves_5 : decode cX8_serves 5 = .ok (.invokevirtual 64, 3) := by decide +kernel
theorem dX8_serves_8 : decode cX8_serves 8 = .ok (.ifCond .ne 8, 3) := by decide +kernel
theorem dX8_serves_11 : decode cX8_serves 11 = .ok (.aload_n 0, 1) := by decide +kernel
theorem dX8_serves_12 : decode cX8_serves 12 = .ok (.invokevirtual 71, 3) := by decide +kernel
theorem dX8_serves_15 : decode cX8_serves 15 = .ok (.ireturn, 1) := by decide +kernel
theorem dX8_serves_16 : decode cX8_serves 16 = .ok (.aload_n 0, 1) := by decide +kernel
theorem dX8_serves_17 : decode cX8_serves 17 = .ok (.getfield 28, 3) := by decide +kernel
theorem dX8_serves_20 : decode cX8_serves 20 = .ok (.iload_n 1, 1) := by decide +kernel
theorem dX8_serves_21 : decode cX8_serves 21 = .ok (.invokevirtual 153, 3) := by decide +kernel
theorem dX8_serves_24 : decode cX8_serves 24 = .ok (.ireturn, 1) := by decide +kernel
set_option maxRecDepth 20000 in
theorem ggX8_pair_X8_isUpTo : GoodIn wsX8_pair wsX8_isUpTo := goodIn_r _ [5] (by decide +kernel) (by decide +kernel)
set_option maxRecDepth 20000 in
theorem gX8_pair_X8_isUpTo : GoodIn wsX8_pair (va_wsS RX8 86 yX8_isUpTo wsX8_isUpTo) := goodIn_app (goodIn_of _ (by decide +kernel)) ggX8_pair_X8_isUpTo
set_option maxRecDepth 20000 in
theorem ggX8_pair_X8_refuseBad : GoodIn wsX8_pair wsX8_refuseBad := goodIn_r _ [9, 10, 26, 27, 28, 29, 30, 31, 32, 33, 34] (by decide +kernel) (by decide +kernel)
set_option maxRecDepth 20000 in
theorem gX8_pair_X8_refuseBad : GoodIn wsX8_pair (wsV RX8 71 RX8 yX8_refuseBad wsX8_refuseBad) := goodIn_app (goodIn_of _ (by decide +kernel)) ggX8_pair_X8_refuseBad
set_option maxRecDepth 20000 in
theorem ggX8_pair_X0_closestTwo : GoodIn wsX8_pair wsX0_closestTwo := goodIn_r _ [15, 16, 17, 18, 19, 20, 21, 22, 23, 24, 25, 35, 36, 37, 38, 39, 40, 41, 42] (by decide +kernel) (by decide +kernel)
set_option maxRecDepth 20000 in
theorem gX8_pair_X0_closestTwo : GoodIn wsX8_pair (wsV RX8 156 RX0 yX0_closestTwo wsX0_closestTwo) := goodIn_app (goodIn_of _ (by decide +kernel)) ggX8_pair_X0_closestTwo
theorem dX8_pair_0 : decode cX8_pair 0 = .ok (.iload_n 1, 1) := by decide +kernel
theorem dX8_pair_1 : decode cX8_pair 1 = .ok (.iconst 2, 1) := by decide +kernel
theorem dX8_pair_2 : decode cX8_pair 2 = .ok (.invokestatic 86, 3) := by decide +kernel
theorem dX8_pair_5 : decode cX8_pair 5 = .ok (.ifCond .ne 8, 3) := by decide +kernel
theorem dX8_pair_8 : decode cX8_pair 8 = .ok (.aload_n 0, 1) := by decide +kernel
theorem dX8_pair_9 : decode cX8_pair 9 = .ok (.invokevirtual 71, 3) := by decide +kernel
theorem dX8_pair_12 : decode cX8_pair 12 = .ok (.ireturn, 1) := by decide +kernel
theorem dX8_pair_13 : decode cX8_pair 13 = .ok (.aload_n 0, 1) := by decide +kernel
theorem dX8_pair_14 : decode cX8_pair 14 = .ok (.getfield 28, 3) := by decide +kernel
theorem dX8_pair_17 : decode cX8_pair 17 = .ok (.iload_n 1, 1) := by decide +kernel
theorem dX8_pair_18 : decode cX8_pair 18 = .ok (.invokevirtual 156, 3) := by decide +kernel
theorem dX8_pair_21 : decode cX8_pair 21 = .ok (.ireturn, 1) := by decide +kernel
set_option maxRecDepth 20000 in
theorem ggX8_type_X8_isUpTo : GoodIn wsX8_type wsX8_isUpTo := goodIn_r _ [6] (by decide +kernel) (by decide +kernel)
set_option maxRecDepth 20000 in
theorem gX8_type_X8_isUpTo : GoodIn wsX8_type (va_wsS RX8 86 yX8_isUpTo wsX8_isUpTo) := goodIn_app (goodIn_of _ (by decide +kernel)) ggX8_type_X8_isUpTo
set_option maxRecDepth 20000 in
theorem ggX8_type_X8_refuseBad : GoodIn wsX8_type wsX8_refuseBad := goodIn_r _ [10, 11, 24, 25, 26, 27, 28, 29, 30, 31, 32] (by decide +kernel) (by decide +kernel)
set_option maxRecDepth 20000 in
theorem gX8_type_X8_refuseBad : GoodIn wsX8_type (wsV RX8 71 RX8 yX8_refuseBad wsX8_refuseBad) := goodIn_app (goodIn_of _ (by decide +kernel)) ggX8_type_X8_refuseBad
set_option maxRecDepth 20000 in
theorem ggX8_type_X8_refuseFull : GoodIn wsX8_type wsX8_refuseFull := goodIn_r _ [15, 16, 24, 25, 26, 27, 28, 29, 30, 31, 32] (by decide +kernel) (by decide +kernel)
set_option maxRecDepth 20000 in
theorem gX8_type_X8_refuseFull : GoodIn wsX8_type (wsV RX8 79 RX8 yX8_refuseFull wsX8_refuseFull) := goodIn_app (goodIn_of _ (by decide +kernel)) ggX8_type_X8_refuseFull
set_option maxRecDepth 20000 in
theorem ggX8_type_X5_put : GoodIn wsX8_type wsX5_put := goodIn_r _ [21, 22, 23, 33, 34] (by decide +kernel) (by decide +kernel)
set_option maxRecDepth 20000 in
theorem gX8_type_X5_put : GoodIn wsX8_type (wsV RX8 162 RX5 yX5_put wsX5_put) := goodIn_app (goodIn_of _ (by decide +kernel)) ggX8_type_X5_put
theorem dX8_type_0 : decode cX8_type 0 = .ok (.iload_n 1, 1) := by decide +kernel
theorem dX8_type_1 : decode cX8_type 1 = .ok (.bipush 127, 2) := by decide +kernel
theorem dX8_type_3 : decode cX8_type 3 = .ok (.invokestatic 86, 3) := by decide +kernel
theorem dX8_type_6 : decode cX8_type 6 = .ok (.ifCond .ne 8, 3) := by decide +kernel
theorem dX8_type_9 : decode cX8_type 9 = .ok (.aload_n 0, 1) := by decide +kernel
theorem dX8_type_10 : decode cX8_type 10 = .ok (.invokevirtual 71, 3) := by decide +kernel
theorem dX8_type_13 : decode cX8_type 13 = .ok (.ireturn, 1) := by decide +kernel
theorem dX8_type_14 : decode cX8_type 14 = .ok (.aload_n 0, 1) := by decide +kernel
theorem dX8_type_15 : decode cX8_type 15 = .ok (.getfield 35, 3) := by decide +kernel
theorem dX8_type_18 : decode cX8_type 18 = .ok (.getfield 159, 3) := by decide +kernel
theorem dX8_type_21 : decode cX8_type 21 = .ok (.bipush 120, 2) := by decide +kernel
theorem dX8_type_23 : decode cX8_type 23 = .ok (.if_icmp .lt 8, 3) := by decide +kernel
theorem dX8_type_26 : decode cX8_type 26 = .ok (.aload_n 0, 1) := by decide +kernel
theorem dX8_type_27 : decode cX8_type 27 = .ok (.invokevirtual 79, 3) := by decide +kernel
theorem dX8_type_30 : decode cX8_type 30 = .ok (.ireturn, 1) := by decide +kernel
theorem dX8_type_31 : decode cX8_type 31 = .ok (.aload_n 0, 1) := by decide +kernel
theorem dX8_type_32 : decode cX8_type 32 = .ok (.getfield 35, 3) := by decide +kernel
theorem dX8_type_35 : decode cX8_type 35 = .ok (.iload_n 1, 1) := by decide +kernel
theorem dX8_type_36 : decode cX8_type 36 = .ok (.invokevirtual 162, 3) := by decide +kernel
theorem dX8_type_39 : decode cX8_type 39 = .ok (.ireturn, 1) := by decide +kernel
set_option maxRecDepth 20000 in
theorem ggX8_clear_X5_empty : GoodIn wsX8_clear wsX5_empty := goodIn_r _ [6, 7, 17, 18] (by decide +kernel) (by decide +kernel)
set_option maxRecDepth 20000 in
theorem gX8_clear_X5_empty : GoodIn wsX8_clear (wsV RX8 165 RX5 yX5_empty wsX5_empty) := goodIn_app (goodIn_of _ (by decide +kernel)) ggX8_clear_X5_empty
theorem dX8_clear_0 : decode cX8_clear 0 = .ok (.aload_n 0, 1) := by decide +kernel
theorem dX8_clear_1 : decode cX8_clear 1 = .ok (.getfield 35, 3) := by decide +kernel
theorem dX8_clear_4 : decode cX8_clear 4 = .ok (.invokevirtual 165, 3) := by decide +kernel
theorem dX8_clear_7 : decode cX8_clear 7 = .ok (.ireturn, 1) := by decide +kernel
set_option maxRecDepth 20000 in
theorem ggX8_says_X3_read : GoodIn wsX8_says wsX3_read := goodIn_r _ [14, 15, 16, 17, 18, 19, 20, 21, 22, 23, 13, 24, 25, 26, 27, 28, 29, 30, 31, 32, 33, 34, 35, 36, 37, 38, 39, 40, 41, 42, 43, 44, 45, 46, 47, 48, 49, 50, 51, 52, 53, 54, 55, 56, 57, 58, 59, 60, 61, 62, 63, 64, 65, 66, 67, 68, 69, 70, 71, 72, 73, 74, 75, 76, 77, 78, 79, 80, 81, 82, 83, 84, 85, 86, 87, 88, 89, 90, 91, 92, 93, 94, 95, 96, 97, 98, 99, 100, 101, 102, 103, 104, 105, 106, 107, 108, 109, 110, 111, 112, 113, 114, 115, 116, 117, 118, 119, 120, 121, 122, 123, 124, 125, 126, 127, 128, 129, 130, 131, 132, 133, 134, 135, 136, 137, 256, 257, 258, 259, 260, 261, 262, 263, 264, 265] (by decide +kernel) (by decide +kernel)
set_option maxRecDepth 20000 in
theorem gX8_says_X3_read : GoodIn wsX8_says (wsV RX8 166 RX3 yX3_read wsX3_read) := goodIn_app (goodIn_of _ (by decide +kernel)) ggX8_says_X3_read
set_option maxRecDepth 20000 in
theorem ggX8_says_X2_empty : GoodIn wsX8_says wsX2_empty := goodIn_r _ [142, 143, 266, 267] (by decide +kernel) (by decide +kernel)
set_option maxRecDepth 20000 in
theorem gX8_says_X2_empty : GoodIn wsX8_says (wsV RX8 169 RX2 yX2_empty wsX2_empty) := goodIn_app (goodIn_of _ (by decide +kernel)) ggX8_says_X2_empty
set_option maxRecDepth 20000 in
theorem ggX8_says_X2_put : GoodIn wsX8_says wsX2_put := goodIn_r _ [147, 143, 148, 266, 267] (by decide +kernel) (by decide +kernel)
set_option maxRecDepth 20000 in
theorem gX8_says_X2_put : GoodIn wsX8_says (wsV RX8 172 RX2 yX2_put wsX2_put) := goodIn_app (goodIn_of _ (by decide +kernel)) ggX8_says_X2_put
set_option maxRecDepth 20000 in
theorem ggX8_says_X4_tell : GoodIn wsX8_says wsX4_tell := goodIn_r _ [153, 154, 155, 156, 157, 158, 159, 160, 161, 162, 163, 164, 165, 166, 167, 168, 169, 170, 171, 172, 173, 174, 175, 176, 177, 178, 179, 180, 181, 141, 182, 183, 145, 146, 147, 143, 148, 184, 185, 186, 187, 188, 189, 190, 191, 192, 193, 194, 195, 152, 196, 197, 198, 199, 200, 201, 202, 203, 204, 205, 206, 207, 208, 209, 210, 211, 212, 213, 214, 215, 216, 217, 218, 219, 220, 221, 222, 223, 224, 225, 226, 227, 228, 229, 230, 231, 232, 233, 234, 235, 236, 237, 238, 239, 240, 268, 269, 270, 271, 250, 251, 252, 253, 254, 255, 266, 267, 272, 273, 274, 275, 276, 277] (by decide +kernel) (by decide +kernel)
set_option maxRecDepth 20000 in
theorem gX8_says_X4_tell : GoodIn wsX8_says (wsV RX8 184 RX4 yX4_tell wsX4_tell) := goodIn_app (goodIn_of _ (by decide +kernel)) ggX8_says_X4_tell
theorem dX8_says_0 : decode cX8_says 0 = .ok (.aload_n 0, 1) := by decide +kernel
theorem dX8_says_1 : decode cX8_says 1 = .ok (.getfield 44, 3) := by decide +kernel
theorem dX8_says_4 : decode cX8_says 4 = .ok (.aload_n 0, 1) := by decide +kernel
theorem dX8_says_5 : decode cX8_says 5 = .ok (.getfield 12, 3) := by decide +kernel
theorem dX8_says_8 : decode cX8_says 8 = .ok (.getfield 75, 3) := by decide +kernel
theorem dX8_says_11 : decode cX8_says 11 = .ok (.invokevirtual 166, 3) := by decide +kernel
theorem dX8_says_14 : decode cX8_says 14 = .ok (.istore_n 1, 1) := by decide +kernel
theorem dX8_says_15 : decode cX8_says 15 = .ok (.iload_n 1, 1) := by decide +kernel
theorem dX8_says_16 : decode cX8_says 16 = .ok (.iconst (-1), 1) := by decide +kernel
theorem dX8_says_17 : decode cX8_says 17 = .ok (.if_icmp .eq 8, 3) := by decide +kernel
theorem dX8_says_20 : decode cX8_says 20 = .ok (.bipush (-10), 2) := by decide +kernel
theorem dX8_says_22 : decode cX8_says 22 = .ok (.iload_n 1, 1) := by decide +kernel
theorem dX8_says_23 : decode cX8_says 23 = .ok (.isub, 1) := by decide +kernel
theorem dX8_says_24 : decode cX8_says 24 = .ok (.ireturn, 1) := by decide +kernel
theorem dX8_says_25 : decode cX8_says 25 = .ok (.aload_n 0, 1) := by decide +kernel
theorem dX8_says_26 : decode cX8_says 26 = .ok (.getfield 51, 3) := by decide +kernel
theorem dX8_says_29 : decode cX8_says 29 = .ok (.invokevirtual 169, 3) := by decide +kernel
theorem dX8_says_32 : decode cX8_says 32 = .ok (.iconst 0, 1) := by decide +kernel
theorem dX8_says_33 : decode cX8_says 33 = .ok (.istore_n 2, 1) := by decide +kernel
theorem dX8_says_34 : decode cX8_says 34 = .ok (.iload_n 2, 1) := by decide +kernel
theorem dX8_says_35 : decode cX8_says 35 = .ok (.aload_n 0, 1) := by decide +kernel
theorem dX8_says_36 : decode cX8_says 36 = .ok (.getfield 44, 3) := by decide +kernel
theorem dX8_says_39 : decode cX8_says 39 = .ok (.getfield 171, 3) := by decide +kernel
theorem dX8_says_42 : decode cX8_says 42 = .ok (.if_icmp .ge 56, 3) := by decide +kernel
theorem dX8_says_45 : decode cX8_says 45 = .ok (.iload_n 2, 1) := by decide +kernel
theorem dX8_says_46 : decode cX8_says 46 = .ok (.ifCond .le 12, 3) := by decide +kernel
theorem dX8_says_49 : decode cX8_says 49 = .ok (.aload_n 0, 1) := by decide +kernel
theorem dX8_says_50 : decode cX8_says 50 = .ok (.getfield 51, 3) := by decide +kernel
theorem dX8_says_53 : decode cX8_says 53 = .ok (.bipush 32, 2) := by decide +kernel
theorem dX8_says_55 : decode cX8_says 55 = .ok (.invokevirtual 172, 3) := by decide +kernel
theorem dX8_says_58 : decode cX8_says 58 = .ok (.aload_n 0, 1) := by decide +kernel
theorem dX8_says_59 : decode cX8_says 59 = .ok (.getfield 60, 3) := by decide +kernel
theorem dX8_says_62 : decode cX8_says 62 = .ok (.aload_n 0, 1) := by decide +kernel
theorem dX8_says_63 : decode cX8_says 63 = .ok (.getfield 44, 3) := by decide +kernel
theorem dX8_says_66 : decode cX8_says 66 = .ok (.getfield 175, 3) := by decide +kernel
theorem dX8_says_69 : decode cX8_says 69 = .ok (.iload_n 2, 1) := by decide +kernel
theorem dX8_says_70 : decode cX8_says 70 = .ok (.iaload, 1) := by decide +kernel
theorem dX8_says_71 : decode cX8_says 71 = .ok (.aload_n 0, 1) := by decide +kernel
theorem dX8_says_72 : decode cX8_says 72 = .ok (.getfield 44, 3) := by decide +kernel
theorem dX8_says_75 : decode cX8_says 75 = .ok (.getfield 178, 3) := by decide +kernel
theorem dX8_says_78 : decode cX8_says 78 = .ok (.iload_n 2, 1) := by decide +kernel
theorem dX8_says_79 : decode cX8_says 79 = .ok (.iaload, 1) := by decide +kernel
theorem dX8_says_80 : decode cX8_says 80 = .ok (.aload_n 0, 1) := by decide +kernel
theorem dX8_says_81 : decode cX8_says 81 = .ok (.getfield 44, 3) := by decide +kernel
theorem dX8_says_84 : decode cX8_says 84 = .ok (.getfield 181, 3) := by decide +kernel
theorem dX8_says_87 : decode cX8_says 87 = .ok (.iload_n 2, 1) := by decide +kernel
theorem dX8_says_88 : decode cX8_says 88 = .ok (.iaload, 1) := by decide +kernel
theorem dX8_says_89 : decode cX8_says 89 = .ok (.invokevirtual 184, 3) := by decide +kernel
theorem dX8_says_92 : decode cX8_says 92 = .ok (.iinc 2 1, 3) := by decide +kernel
theorem dX8_says_95 : decode cX8_says 95 = .ok (.goto (-61), 3) := by decide +kernel
theorem dX8_says_98 : decode cX8_says 98 = .ok (.aload_n 0, 1) := by decide +kernel
theorem dX8_says_99 : decode cX8_says 99 = .ok (.getfield 44, 3) := by decide +kernel
theorem dX8_says_102 : decode cX8_says 102 = .ok (.getfield 171, 3) := by decide +kernel
theorem dX8_says_105 : decode cX8_says 105 = .ok (.ireturn, 1) := by decide +kernel
set_option maxRecDepth 20000 in
theorem ggX8_answer_X8_refuseBadPlace : GoodIn wsX8_answer wsX8_refuseBadPlace := goodIn_r _ [8, 9, 10, 11, 12, 13, 14, 15, 16, 17, 18] (by decide +kernel) (by decide +kernel)
set_option maxRecDepth 20000 in
theorem gX8_answer_X8_refuseBadPlace : GoodIn wsX8_answer (wsV RX8 110 RX8 yX8_refuseBadPlace wsX8_refuseBadPlace) := goodIn_app (goodIn_of _ (by decide +kernel)) ggX8_answer_X8_refuseBadPlace
theorem dX8_answer_0 : decode cX8_answer 0 = .ok (.iload_n 1, 1) := by decide +kernel
theorem dX8_answer_1 : decode cX8_answer 1 = .ok (.iconst (-1), 1) := by decide +kernel
theorem dX8_answer_2 : decode cX8_answer 2 = .ok (.if_icmp .ge 8, 3) := by decide +kernel
theorem dX8_answer_5 : decode cX8_answer 5 = .ok (.aload_n 0, 1) := by decide +kernel
theorem dX8_answer_6 : decode cX8_answer 6 = .ok (.invokevirtual 110, 3) := by decide +kernel
theorem dX8_answer_9 : decode cX8_answer 9 = .ok (.ireturn, 1) := by decide +kernel
theorem dX8_answer_10 : decode cX8_answer 10 = .ok (.iload_n 1, 1) := by decide +kernel
theorem dX8_answer_11 : decode cX8_answer 11 = .ok (.iconst (-1), 1) := by decide +kernel
theorem dX8_answer_12 : decode cX8_answer 12 = .ok (.if_icmp .ne 11, 3) := by decide +kernel
theorem dX8_answer_15 : decode cX8_answer 15 = .ok (.aload_n 0, 1) := by decide +kernel
theorem dX8_answer_16 : decode cX8_answer 16 = .ok (.getfield 51, 3) := by decide +kernel
theorem dX8_answer_19 : decode cX8_answer 19 = .ok (.getfield 188, 3) := by decide +kernel
theorem dX8_answer_22 : decode cX8_answer 22 = .ok (.ireturn, 1) := by decide +kernel
theorem dX8_answer_23 : decode cX8_answer 23 = .ok (.iload_n 1, 1) := by decide +kernel
theorem dX8_answer_24 : decode cX8_answer 24 = .ok (.aload_n 0, 1) := by decide +kernel
theorem dX8_answer_25 : decode cX8_answer 25 = .ok (.getfield 51, 3) := by decide +kernel
theorem dX8_answer_28 : decode cX8_answer 28 = .ok (.getfield 188, 3) := by decide +kernel
theorem dX8_answer_31 : decode cX8_answer 31 = .ok (.if_icmp .ge 15, 3) := by decide +kernel
theorem dX8_answer_34 : decode cX8_answer 34 = .ok (.aload_n 0, 1) := by decide +kernel
theorem dX8_answer_35 : decode cX8_answer 35 = .ok (.getfield 51, 3) := by decide +kernel
theorem dX8_answer_38 : decode cX8_answer 38 = .ok (.getfield 189, 3) := by decide +kernel
theorem dX8_answer_41 : decode cX8_answer 41 = .ok (.iload_n 1, 1) := by decide +kernel
theorem dX8_answer_42 : decode cX8_answer 42 = .ok (.baload, 1) := by decide +kernel
theorem dX8_answer_43 : decode cX8_answer 43 = .ok (.goto 5, 3) := by decide +kernel
theorem dX8_answer_46 : decode cX8_answer 46 = .ok (.bipush (-5), 2) := by decide +kernel
theorem dX8_answer_48 : decode cX8_answer 48 = .ok (.ireturn, 1) := by decide +kernel
set_option maxRecDepth 20000 in
theorem ggX8_told_X8_isUpTo : GoodIn wsX8_told wsX8_isUpTo := goodIn_r _ [4] (by decide +kernel) (by decide +kernel)
set_option maxRecDepth 20000 in
theorem gX8_told_X8_isUpTo : GoodIn wsX8_told (va_wsS RX8 86 yX8_isUpTo wsX8_isUpTo) := goodIn_app (goodIn_of _ (by decide +kernel)) ggX8_told_X8_isUpTo
set_option maxRecDepth 20000 in
theorem ggX8_told_X8_refuseBad : GoodIn wsX8_told wsX8_refuseBad := goodIn_r _ [8, 9, 22, 23, 24, 25, 26, 27, 28, 29, 30] (by decide +kernel) (by decide +kernel)
set_option maxRecDepth 20000 in
theorem gX8_told_X8_refuseBad : GoodIn wsX8_told (wsV RX8 71 RX8 yX8_refuseBad wsX8_refuseBad) := goodIn_app (goodIn_of _ (by decide +kernel)) ggX8_told_X8_refuseBad
set_option maxRecDepth 20000 in
theorem ggX8_told_X8_tally : GoodIn wsX8_told wsX8_tally := goodIn_r _ [13, 9, 14, 15, 16, 17, 18, 19, 20, 21, 22, 23, 24, 25, 26, 27, 28, 29, 30, 31, 32, 33, 34, 35, 36, 37, 38, 39, 40] (by decide +kernel) (by decide +kernel)
set_option maxRecDepth 20000 in
theorem gX8_told_X8_tally : GoodIn wsX8_told (wsV RX8 193 RX8 yX8_tally wsX8_tally) := goodIn_app (goodIn_of _ (by decide +kernel)) ggX8_told_X8_tally
theorem dX8_told_0 : decode cX8_told 0 = .ok (.iload_n 1, 1) := by decide +kernel
theorem dX8_told_1 : decode cX8_told 1 = .ok (.bipush 6, 2) := by decide +kernel
theorem dX8_told_3 : decode cX8_told 3 = .ok (.invokestatic 86, 3) := by decide +kernel
theorem dX8_told_6 : decode cX8_told 6 = .ok (.ifCond .ne 8, 3) := by decide +kernel
theorem dX8_told_9 : decode cX8_told 9 = .ok (.aload_n 0, 1) := by decide +kernel
theorem dX8_told_10 : decode cX8_told 10 = .ok (.invokevirtual 71, 3) := by decide +kernel
theorem dX8_told_13 : decode cX8_told 13 = .ok (.ireturn, 1) := by decide +kernel
theorem dX8_told_14 : decode cX8_told 14 = .ok (.aload_n 0, 1) := by decide +kernel
theorem dX8_told_15 : decode cX8_told 15 = .ok (.iload_n 1, 1) := by decide +kernel
theorem dX8_told_16 : decode cX8_told 16 = .ok (.invokevirtual 193, 3) := by decide +kernel
theorem dX8_told_19 : decode cX8_told 19 = .ok (.ireturn, 1) := by decide +kernel
set_option maxRecDepth 20000 in
theorem ggX8_digest_X8_tally : GoodIn wsX8_digest wsX8_tally := goodIn_r _ [12, 13, 14, 15, 16, 3, 4, 17, 5, 6, 35, 36, 37, 38, 39, 40, 41, 42, 43, 52, 53, 44, 45, 46, 47, 48, 49, 50, 51] (by decide +kernel) (by decide +kernel)
set_option maxRecDepth 20000 in
theorem gX8_digest_X8_tally : GoodIn wsX8_digest (wsV RX8 193 RX8 yX8_tally wsX8_tally) := goodIn_app (goodIn_of _ (by decide +kernel)) ggX8_digest_X8_tally
set_option maxRecDepth 20000 in
theorem ggX8_digest_X1_aspect : GoodIn wsX8_digest wsX1_aspect := goodIn_r _ [22, 23, 24, 25, 26, 27, 28, 21, 29, 30, 31, 32, 33, 34, 44, 45, 46, 47, 48, 49] (by decide +kernel) (by decide +kernel)
set_option maxRecDepth 20000 in
theorem gX8_digest_X1_aspect : GoodIn wsX8_digest (wsV RX8 104 RX1 yX1_aspect wsX1_aspect) := goodIn_app (goodIn_of _ (by decide +kernel)) ggX8_digest_X1_aspect
theorem dX8_digest_0 : decode cX8_digest 0 = .ok (.ldc2_w 196, 3) := by decide +kernel
theorem dX8_digest_3 : decode cX8_digest 3 = .ok (.lstore_n 1, 1) := by decide +kernel
theorem dX8_digest_4 : decode cX8_digest 4 = .ok (.iconst 0, 1) := by decide +kernel
theorem dX8_digest_5 : decode cX8_digest 5 = .ok (.istore_n 3, 1) := by decide +kernel
theorem dX8_digest_6 : decode cX8_digest 6 = .ok (.iload_n 3, 1) := by decide +kernel
theorem dX8_digest_7 : decode cX8_digest 7 = .ok (.bipush 6, 2) := by decide +kernel
theorem dX8_digest_9 : decode cX8_digest 9 = .ok (.if_icmp .gt 22, 3) := by decide +kernel
theorem dX8_digest_12 : decode cX8_digest 12 = .ok (.ldc2_w 198, 3) := by decide +kernel
theorem dX8_digest_15 : decode cX8_digest 15 = .ok (.lload_n 1, 1) := by decide +kernel
theorem dX8_digest_16 : decode cX8_digest 16 = .ok (.lmul, 1) := by decide +kernel
theorem dX8_digest_17 : decode cX8_digest 17 = .ok (.aload_n 0, 1) := by decide +kernel
theorem dX8_digest_18 : decode cX8_digest 18 = .ok (.iload_n 3, 1) := by decide +kernel
theorem dX8_digest_19 : decode cX8_digest 19 = .ok (.invokevirtual 193, 3) := by decide +kernel
theorem dX8_digest_22 : decode cX8_digest 22 = .ok (.i2l, 1) := by decide +kernel
theorem dX8_digest_23 : decode cX8_digest 23 = .ok (.ladd, 1) := by decide +kernel
theorem dX8_digest_24 : decode cX8_digest 24 = .ok (.lstore_n 1, 1) := by decide +kernel
theorem dX8_digest_25 : decode cX8_digest 25 = .ok (.iinc 3 1, 3) := by decide +kernel
theorem dX8_digest_28 : decode cX8_digest 28 = .ok (.goto (-22), 3) := by decide +kernel
theorem dX8_digest_31 : decode cX8_digest 31 = .ok (.iconst 0, 1) := by decide +kernel
theorem dX8_digest_32 : decode cX8_digest 32 = .ok (.istore_n 3, 1) := by decide +kernel
theorem dX8_digest_33 : decode cX8_digest 33 = .ok (.iload_n 3, 1) := by decide +kernel
theorem dX8_digest_34 : decode cX8_digest 34 = .ok (.aload_n 0, 1) := by decide +kernel
theorem dX8_digest_35 : decode cX8_digest 35 = .ok (.getfield 12, 3) := by decide +kernel
theorem dX8_digest_38 : decode cX8_digest 38 = .ok (.getfield 75, 3) := by decide +kernel
theorem dX8_digest_41 : decode cX8_digest 41 = .ok (.if_icmp .ge 42, 3) := by decide +kernel
theorem dX8_digest_44 : decode cX8_digest 44 = .ok (.iconst 0, 1) := by decide +kernel
theorem dX8_digest_45 : decode cX8_digest 45 = .ok (.istore 4, 2) := by decide +kernel
theorem dX8_digest_47 : decode cX8_digest 47 = .ok (.iload 4, 2) := by decide +kernel
theorem dX8_digest_49 : decode cX8_digest 49 = .ok (.iconst 2, 1) := by decide +kernel
theorem dX8_digest_50 : decode cX8_digest 50 = .ok (.if_icmp .gt 27, 3) := by decide +kernel
theorem dX8_digest_53 : decode cX8_digest 53 = .ok (.ldc2_w 198, 3) := by decide +kernel
theorem dX8_digest_56 : decode cX8_digest 56 = .ok (.lload_n 1, 1) := by decide +kernel
theorem dX8_digest_57 : decode cX8_digest 57 = .ok (.lmul, 1) := by decide +kernel
theorem dX8_digest_58 : decode cX8_digest 58 = .ok (.aload_n 0, 1) := by decide +kernel
theorem dX8_digest_59 : decode cX8_digest 59 = .ok (.getfield 12, 3) := by decide +kernel
theorem dX8_digest_62 : decode cX8_digest 62 = .ok (.iload_n 3, 1) := by decide +kernel
theorem dX8_digest_63 : decode cX8_digest 63 = .ok (.iload 4, 2) := by decide +kernel
theorem dX8_digest_65 : decode cX8_digest 65 = .ok (.invokevirtual 104, 3) := by decide +kernel
theorem dX8_digest_68 : decode cX8_digest 68 = .ok (.i2l, 1) := by decide +kernel
theorem dX8_digest_69 : decode cX8_digest 69 = .ok (.ladd, 1) := by decide +kernel
theorem dX8_digest_70 : decode cX8_digest 70 = .ok (.lstore_n 1, 1) := by decide +kernel
theorem dX8_digest_71 : decode cX8_digest 71 = .ok (.iinc 4 1, 3) := by decide +kernel
theorem dX8_digest_74 : decode cX8_digest 74 = .ok (.goto (-27), 3) := by decide +kernel
theorem dX8_digest_77 : decode cX8_digest 77 = .ok (.iinc 3 1, 3) := by decide +kernel
theorem dX8_digest_80 : decode cX8_digest 80 = .ok (.goto (-47), 3) := by decide +kernel
theorem dX8_digest_83 : decode cX8_digest 83 = .ok (.iconst 0, 1) := by decide +kernel
theorem dX8_digest_84 : decode cX8_digest 84 = .ok (.istore_n 3, 1) := by decide +kernel
theorem dX8_digest_85 : decode cX8_digest 85 = .ok (.iload_n 3, 1) := by decide +kernel
theorem dX8_digest_86 : decode cX8_digest 86 = .ok (.aload_n 0, 1) := by decide +kernel
theorem dX8_digest_87 : decode cX8_digest 87 = .ok (.getfield 51, 3) := by decide +kernel
theorem dX8_digest_90 : decode cX8_digest 90 = .ok (.getfield 188, 3) := by decide +kernel
theorem dX8_digest_93 : decode cX8_digest 93 = .ok (.if_icmp .ge 26, 3) := by decide +kernel
theorem dX8_digest_96 : decode cX8_digest 96 = .ok (.ldc2_w 198, 3) := by decide +kernel
theorem dX8_digest_99 : decode cX8_digest 99 = .ok (.lload_n 1, 1) := by decide +kernel
theorem dX8_digest_100 : decode cX8_digest 100 = .ok (.lmul, 1) := by decide +kernel
theorem dX8_digest_101 : decode cX8_digest 101 = .ok (.aload_n 0, 1) := by decide +kernel
theorem dX8_digest_102 : decode cX8_digest 102 = .ok (.getfield 51, 3) := by decide +kernel
theorem dX8_digest_105 : decode cX8_digest 105 = .ok (.getfield 189, 3) := by decide +kernel
theorem dX8_digest_108 : decode cX8_digest 108 = .ok (.iload_n 3, 1) := by decide +kernel
theorem dX8_digest_109 : decode cX8_digest 109 = .ok (.baload, 1) := by decide +kernel
theorem dX8_digest_110 : decode cX8_digest 110 = .ok (.i2l, 1) := by decide +kernel
theorem dX8_digest_111 : decode cX8_digest 111 = .ok (.ladd, 1) := by decide +kernel
theorem dX8_digest_112 : decode cX8_digest 112 = .ok (.lstore_n 1, 1) := by decide +kernel
theorem dX8_digest_113 : decode cX8_digest 113 = .ok (.iinc 3 1, 3) := by decide +kernel
theorem dX8_digest_116 : decode cX8_digest 116 = .ok (.goto (-31), 3) := by decide +kernel
theorem dX8_digest_119 : decode cX8_digest 119 = .ok (.lload_n 1, 1) := by decide +kernel
theorem dX8_digest_120 : decode cX8_digest 120 = .ok (.lreturn, 1) := by decide +kernel
theorem dX8_tally_0 : decode cX8_tally 0 = .ok (.iload_n 1, 1) := by decide +kernel
theorem dX8_tally_1 : decode cX8_tally 1 = .ok (.tableswitch 85 0 6 #[43, 85, 48, 53, 61, 69, 77], 43) := by decide +kernel
theorem dX8_tally_44 : decode cX8_tally 44 = .ok (.aload_n 0, 1) := by decide +kernel
theorem dX8_tally_45 : decode cX8_tally 45 = .ok (.getfield 200, 3) := by decide +kernel
theorem dX8_tally_48 : decode cX8_tally 48 = .ok (.ireturn, 1) := by decide +kernel
theorem dX8_tally_49 : decode cX8_tally 49 = .ok (.aload_n 0, 1) := by decide +kernel
theorem dX8_tally_50 : decode cX8_tally 50 = .ok (.getfield 203, 3) := by decide +kernel
theorem dX8_tally_53 : decode cX8_tally 53 = .ok (.ireturn, 1) := by decide +kernel
theorem dX8_tally_54 : decode cX8_tally 54 = .ok (.aload_n 0, 1) := by decide +kernel
theorem dX8_tally_55 : decode cX8_tally 55 = .ok (.getfield 35, 3) := by decide +kernel
theorem dX8_tally_58 : decode cX8_tally 58 = .ok (.getfield 159, 3) := by decide +kernel
theorem dX8_tally_61 : decode cX8_tally 61 = .ok (.ireturn, 1) := by decide +kernel
theorem dX8_tally_62 : decode cX8_tally 62 = .ok (.aload_n 0, 1) := by decide +kernel
theorem dX8_tally_63 : decode cX8_tally 63 = .ok (.getfield 12, 3) := by decide +kernel
theorem dX8_tally_66 : decode cX8_tally 66 = .ok (.getfield 75, 3) := by decide +kernel
theorem dX8_tally_69 : decode cX8_tally 69 = .ok (.ireturn, 1) := by decide +kernel
theorem dX8_tally_70 : decode cX8_tally 70 = .ok (.aload_n 0, 1) := by decide +kernel
theorem dX8_tally_71 : decode cX8_tally 71 = .ok (.getfield 12, 3) := by decide +kernel
theorem dX8_tally_74 : decode cX8_tally 74 = .ok (.getfield 206, 3) := by decide +kernel
theorem dX8_tally_77 : decode cX8_tally 77 = .ok (.ireturn, 1) := by decide +kernel
theorem dX8_tally_78 : decode cX8_tally 78 = .ok (.aload_n 0, 1) := by decide +kernel
theorem dX8_tally_79 : decode cX8_tally 79 = .ok (.getfield 51, 3) := by decide +kernel
theorem dX8_tally_82 : decode cX8_tally 82 = .ok (.getfield 188, 3) := by decide +kernel
theorem dX8_tally_85 : decode cX8_tally 85 = .ok (.ireturn, 1) := by decide +kernel
theorem dX8_tally_86 : decode cX8_tally 86 = .ok (.iconst 0, 1) := by decide +kernel
theorem dX8_tally_87 : decode cX8_tally 87 = .ok (.ireturn, 1) := by decide +kernel
set_option maxRecDepth 20000 in
theorem ggX8_whichOrFar_X1_gap : GoodIn wsX8_whichOrFar wsX1_gap := goodIn_r _ [6, 7, 17, 18, 19, 20, 21, 22] (by decide +kernel) (by decide +kernel)
set_option maxRecDepth 20000 in
theorem gX8_whichOrFar_X1_gap : GoodIn wsX8_whichOrFar (wsV RX8 107 RX1 yX1_gap wsX1_gap) := goodIn_app (goodIn_of _ (by decide +kernel)) ggX8_whichOrFar_X1_gap
theorem dX8_whichOrFar_0 : decode cX8_whichOrFar 0 = .ok (.iload_n 2, 1) := by decide +kernel
theorem dX8_whichOrFar_1 : decode cX8_whichOrFar 1 = .ok (.iconst (-1), 1) := by decide +kernel
theorem dX8_whichOrFar_2 : decode cX8_whichOrFar 2 = .ok (.if_icmp .eq 7, 3) := by decide +kernel
theorem dX8_whichOrFar_5 : decode cX8_whichOrFar 5 = .ok (.iload_n 3, 1) := by decide +kernel
theorem dX8_whichOrFar_6 : decode cX8_whichOrFar 6 = .ok (.ifCond .ne 7, 3) := by decide +kernel
theorem dX8_whichOrFar_9 : decode cX8_whichOrFar 9 = .ok (.iload_n 2, 1) := by decide +kernel
theorem dX8_whichOrFar_10 : decode cX8_whichOrFar 10 = .ok (.goto 12, 3) := by decide +kernel
theorem dX8_whichOrFar_13 : decode cX8_whichOrFar 13 = .ok (.aload_n 0, 1) := by decide +kernel
theorem dX8_whichOrFar_14 : decode cX8_whichOrFar 14 = .ok (.getfield 12, 3) := by decide +kernel
theorem dX8_whichOrFar_17 : decode cX8_whichOrFar 17 = .ok (.iload_n 1, 1) := by decide +kernel
theorem dX8_whichOrFar_18 : decode cX8_whichOrFar 18 = .ok (.iload_n 2, 1) := by decide +kernel
theorem dX8_whichOrFar_19 : decode cX8_whichOrFar 19 = .ok (.invokevirtual 107, 3) := by decide +kernel
theorem dX8_whichOrFar_22 : decode cX8_whichOrFar 22 = .ok (.ireturn, 1) := by decide +kernel
theorem dX8_refuseBad_0 : decode cX8_refuseBad 0 = .ok (.aload_n 0, 1) := by decide +kernel
theorem dX8_refuseBad_1 : decode cX8_refuseBad 1 = .ok (.dup, 1) := by decide +kernel
theorem dX8_refuseBad_2 : decode cX8_refuseBad 2 = .ok (.getfield 200, 3) := by decide +kernel
theorem dX8_refuseBad_5 : decode cX8_refuseBad 5 = .ok (.iconst 1, 1) := by decide +kernel
theorem dX8_refuseBad_6 : decode cX8_refuseBad 6 = .ok (.iadd, 1) := by decide +kernel
theorem dX8_refuseBad_7 : decode cX8_refuseBad 7 = .ok (.putfield 200, 3) := by decide +kernel
theorem dX8_refuseBad_10 : decode cX8_refuseBad 10 = .ok (.bipush (-2), 2) := by decide +kernel
theorem dX8_refuseBad_12 : decode cX8_refuseBad 12 = .ok (.ireturn, 1) := by decide +kernel
theorem dX8_refuseBadPlace_0 : decode cX8_refuseBadPlace 0 = .ok (.aload_n 0, 1) := by decide +kernel
theorem dX8_refuseBadPlace_1 : decode cX8_refuseBadPlace 1 = .ok (.dup, 1) := by decide +kernel
theorem dX8_refuseBadPlace_2 : decode cX8_refuseBadPlace 2 = .ok (.getfield 200, 3) := by decide +kernel
theorem dX8_refuseBadPlace_5 : decode cX8_refuseBadPlace 5 = .ok (.iconst 1, 1) := by decide +kernel
theorem dX8_refuseBadPlace_6 : decode cX8_refuseBadPlace 6 = .ok (.iadd, 1) := by decide +kernel
theorem dX8_refuseBadPlace_7 : decode cX8_refuseBadPlace 7 = .ok (.putfield 200, 3) := by decide +kernel
theorem dX8_refuseBadPlace_10 : decode cX8_refuseBadPlace 10 = .ok (.bipush (-10), 2) := by decide +kernel
theorem dX8_refuseBadPlace_12 : decode cX8_refuseBadPlace 12 = .ok (.ireturn, 1) := by decide +kernel
theorem dX8_refuseFull_0 : decode cX8_refuseFull 0 = .ok (.aload_n 0, 1) := by decide +kernel
theorem dX8_refuseFull_1 : decode cX8_refuseFull 1 = .ok (.dup, 1) := by decide +kernel
theorem dX8_refuseFull_2 : decode cX8_refuseFull 2 = .ok (.getfield 203, 3) := by decide +kernel
theorem dX8_refuseFull_5 : decode cX8_refuseFull 5 = .ok (.iconst 1, 1) := by decide +kernel
theorem dX8_refuseFull_6 : decode cX8_refuseFull 6 = .ok (.iadd, 1) := by decide +kernel
theorem dX8_refuseFull_7 : decode cX8_refuseFull 7 = .ok (.putfield 203, 3) := by decide +kernel
theorem dX8_refuseFull_10 : decode cX8_refuseFull 10 = .ok (.bipush (-4), 2) := by decide +kernel
theorem dX8_refuseFull_12 : decode cX8_refuseFull 12 = .ok (.ireturn, 1) := by decide +kernel
theorem dX8_isUpTo_0 : decode cX8_isUpTo 0 = .ok (.iload_n 0, 1) := by decide +kernel
theorem dX8_isUpTo_1 : decode cX8_isUpTo 1 = .ok (.ifCond .lt 12, 3) := by decide +kernel
theorem dX8_isUpTo_4 : decode cX8_isUpTo 4 = .ok (.iload_n 0, 1) := by decide +kernel
theorem dX8_isUpTo_5 : decode cX8_isUpTo 5 = .ok (.iload_n 1, 1) := by decide +kernel
theorem dX8_isUpTo_6 : decode cX8_isUpTo 6 = .ok (.if_icmp .gt 7, 3) := by decide +kernel
theorem dX8_isUpTo_9 : decode cX8_isUpTo 9 = .ok (.iconst 1, 1) := by decide +kernel
theorem dX8_isUpTo_10 : decode cX8_isUpTo 10 = .ok (.goto 4, 3) := by decide +kernel
theorem dX8_isUpTo_13 : decode cX8_isUpTo 13 = .ok (.iconst 0, 1) := by decide +kernel
theorem dX8_isUpTo_14 : decode cX8_isUpTo 14 = .ok (.ireturn, 1) := by decide +kernel
theorem dX8_isLength_0 : decode cX8_isLength 0 = .ok (.iload_n 0, 1) := by decide +kernel
theorem dX8_isLength_1 : decode cX8_isLength 1 = .ok (.iconst 1, 1) := by decide +kernel
theorem dX8_isLength_2 : decode cX8_isLength 2 = .ok (.if_icmp .lt 13, 3) := by decide +kernel
theorem dX8_isLength_5 : decode cX8_isLength 5 = .ok (.iload_n 0, 1) := by decide +kernel
theorem dX8_isLength_6 : decode cX8_isLength 6 = .ok (.bipush 99, 2) := by decide +kernel
theorem dX8_isLength_8 : decode cX8_isLength 8 = .ok (.if_icmp .gt 7, 3) := by decide +kernel
theorem dX8_isLength_11 : decode cX8_isLength 11 = .ok (.iconst 1, 1) := by decide +kernel
theorem dX8_isLength_12 : decode cX8_isLength 12 = .ok (.goto 4, 3) := by decide +kernel
theorem dX8_isLength_15 : decode cX8_isLength 15 = .ok (.iconst 0, 1) := by decide +kernel
theorem dX8_isLength_16 : decode cX8_isLength 16 = .ok (.ireturn, 1) := by decide +kernel
