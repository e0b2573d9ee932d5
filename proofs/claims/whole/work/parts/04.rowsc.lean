theorem dX9_init_0 : decode cX9_init 0 = .ok (.aload_n 0, 1) := by decide +kernel
theorem dX9_init_1 : decode cX9_init 1 = .ok (.invokespecial 1, 3) := by decide +kernel
theorem dX9_init_4 : decode cX9_init 4 = .ok (.aload_n 0, 1) := by decide +kernel
theorem dX9_init_5 : decode cX9_init 5 = .ok (.bipush 60, 2) := by decide +kernel
theorem dX9_init_7 : decode cX9_init 7 = .ok (.newarray .int, 2) := by decide +kernel
theorem dX9_init_9 : decode cX9_init 9 = .ok (.putfield 7, 3) := by decide +kernel
theorem dX9_init_12 : decode cX9_init 12 = .ok (.aload_n 0, 1) := by decide +kernel
theorem dX9_init_13 : decode cX9_init 13 = .ok (.bipush 60, 2) := by decide +kernel
theorem dX9_init_15 : decode cX9_init 15 = .ok (.newarray .int, 2) := by decide +kernel
theorem dX9_init_17 : decode cX9_init 17 = .ok (.putfield 13, 3) := by decide +kernel
theorem dX9_init_20 : decode cX9_init 20 = .ok (.aload_n 0, 1) := by decide +kernel
theorem dX9_init_21 : decode cX9_init 21 = .ok (.bipush 60, 2) := by decide +kernel
theorem dX9_init_23 : decode cX9_init 23 = .ok (.newarray .boolean, 2) := by decide +kernel
theorem dX9_init_25 : decode cX9_init 25 = .ok (.putfield 16, 3) := by decide +kernel
theorem dX9_init_28 : decode cX9_init 28 = .ok (.aload_n 0, 1) := by decide +kernel
theorem dX9_init_29 : decode cX9_init 29 = .ok (.bipush 120, 2) := by decide +kernel
theorem dX9_init_31 : decode cX9_init 31 = .ok (.newarray .int, 2) := by decide +kernel
theorem dX9_init_33 : decode cX9_init 33 = .ok (.putfield 20, 3) := by decide +kernel
theorem dX9_init_36 : decode cX9_init 36 = .ok (.aload_n 0, 1) := by decide +kernel
theorem dX9_init_37 : decode cX9_init 37 = .ok (.sipush 400, 3) := by decide +kernel
theorem dX9_init_40 : decode cX9_init 40 = .ok (.newarray .int, 2) := by decide +kernel
theorem dX9_init_42 : decode cX9_init 42 = .ok (.putfield 23, 3) := by decide +kernel
theorem dX9_init_45 : decode cX9_init 45 = .ok (.aload_n 0, 1) := by decide +kernel
theorem dX9_init_46 : decode cX9_init 46 = .ok (.bipush 60, 2) := by decide +kernel
theorem dX9_init_48 : decode cX9_init 48 = .ok (.newarray .int, 2) := by decide +kernel
theorem dX9_init_50 : decode cX9_init 50 = .ok (.putfield 26, 3) := by decide +kernel
theorem dX9_init_53 : decode cX9_init 53 = .ok (.aload_n 0, 1) := by decide +kernel
theorem dX9_init_54 : decode cX9_init 54 = .ok (.bipush 60, 2) := by decide +kernel
theorem dX9_init_56 : decode cX9_init 56 = .ok (.newarray .int, 2) := by decide +kernel
theorem dX9_init_58 : decode cX9_init 58 = .ok (.putfield 29, 3) := by decide +kernel
theorem dX9_init_61 : decode cX9_init 61 = .ok (.aload_n 0, 1) := by decide +kernel
theorem dX9_init_62 : decode cX9_init 62 = .ok (.iconst 2, 1) := by decide +kernel
theorem dX9_init_63 : decode cX9_init 63 = .ok (.newarray .int, 2) := by decide +kernel
theorem dX9_init_65 : decode cX9_init 65 = .ok (.putfield 32, 3) := by decide +kernel
theorem dX9_init_68 : decode cX9_init 68 = .ok (.aload_n 0, 1) := by decide +kernel
theorem dX9_init_69 : decode cX9_init 69 = .ok (.iconst 1, 1) := by decide +kernel
theorem dX9_init_70 : decode cX9_init 70 = .ok (.putfield 35, 3) := by decide +kernel
theorem dX9_init_73 : decode cX9_init 73 = .ok (.aload_n 0, 1) := by decide +kernel
theorem dX9_init_74 : decode cX9_init 74 = .ok (.getfield 7, 3) := by decide +kernel
theorem dX9_init_77 : decode cX9_init 77 = .ok (.iconst 0, 1) := by decide +kernel
theorem dX9_init_78 : decode cX9_init 78 = .ok (.iconst (-1), 1) := by decide +kernel
theorem dX9_init_79 : decode cX9_init 79 = .ok (.iastore, 1) := by decide +kernel
theorem dX9_init_80 : decode cX9_init 80 = .ok (.return_, 1) := by decide +kernel
theorem dX9_in_0 : decode cX9_in 0 = .ok (.lload_n 0, 1) := by decide +kernel
theorem dX9_in_1 : decode cX9_in 1 = .ok (.lload_n 2, 1) := by decide +kernel
theorem dX9_in_2 : decode cX9_in 2 = .ok (.lcmp, 1) := by decide +kernel
theorem dX9_in_3 : decode cX9_in 3 = .ok (.ifCond .lt 14, 3) := by decide +kernel
theorem dX9_in_6 : decode cX9_in 6 = .ok (.lload_n 0, 1) := by decide +kernel
theorem dX9_in_7 : decode cX9_in 7 = .ok (.lload 4, 2) := by decide +kernel
theorem dX9_in_9 : decode cX9_in 9 = .ok (.lcmp, 1) := by decide +kernel
theorem dX9_in_10 : decode cX9_in 10 = .ok (.ifCond .gt 7, 3) := by decide +kernel
theorem dX9_in_13 : decode cX9_in 13 = .ok (.iconst 1, 1) := by decide +kernel
theorem dX9_in_14 : decode cX9_in 14 = .ok (.goto 4, 3) := by decide +kernel
theorem dX9_in_17 : decode cX9_in 17 = .ok (.iconst 0, 1) := by decide +kernel
theorem dX9_in_18 : decode cX9_in 18 = .ok (.ireturn, 1) := by decide +kernel
set_option maxRecDepth 20000 in
theorem ggX9_isVillage_X9_in : GoodIn wsX9_isVillage wsX9_in := goodIn_r _ [5] (by decide +kernel) (by decide +kernel)
set_option maxRecDepth 20000 in
theorem gX9_isVillage_X9_in : GoodIn wsX9_isVillage (va_wsS RX9 39 yX9_in wsX9_in) := goodIn_app (goodIn_of _ (by decide +kernel)) ggX9_isVillage_X9_in
theorem dX9_isVillage_0 : decode cX9_isVillage 0 = .ok (.iload_n 1, 1) := by decide +kernel
theorem dX9_isVillage_1 : decode cX9_isVillage 1 = .ok (.i2l, 1) := by decide +kernel
theorem dX9_isVillage_2 : decode cX9_isVillage 2 = .ok (.lconst 0, 1) := by decide +kernel
theorem dX9_isVillage_3 : decode cX9_isVillage 3 = .ok (.aload_n 0, 1) := by decide +kernel
theorem dX9_isVillage_4 : decode cX9_isVillage 4 = .ok (.getfield 35, 3) := by decide +kernel
theorem dX9_isVillage_7 : decode cX9_isVillage 7 = .ok (.iconst 1, 1) := by decide +kernel
theorem dX9_isVillage_8 : decode cX9_isVillage 8 = .ok (.isub, 1) := by decide +kernel
theorem dX9_isVillage_9 : decode cX9_isVillage 9 = .ok (.i2l, 1) := by decide +kernel
theorem dX9_isVillage_10 : decode cX9_isVillage 10 = .ok (.invokestatic 39, 3) := by decide +kernel
theorem dX9_isVillage_13 : decode cX9_isVillage 13 = .ok (.ireturn, 1) := by decide +kernel
theorem dX9_refuse_0 : decode cX9_refuse 0 = .ok (.aload_n 0, 1) := by decide +kernel
theorem dX9_refuse_1 : decode cX9_refuse 1 = .ok (.dup, 1) := by decide +kernel
theorem dX9_refuse_2 : decode cX9_refuse 2 = .ok (.getfield 43, 3) := by decide +kernel
theorem dX9_refuse_5 : decode cX9_refuse 5 = .ok (.iconst 1, 1) := by decide +kernel
theorem dX9_refuse_6 : decode cX9_refuse 6 = .ok (.iadd, 1) := by decide +kernel
theorem dX9_refuse_7 : decode cX9_refuse 7 = .ok (.putfield 43, 3) := by decide +kernel
theorem dX9_refuse_10 : decode cX9_refuse 10 = .ok (.bipush (-2), 2) := by decide +kernel
theorem dX9_refuse_12 : decode cX9_refuse 12 = .ok (.ireturn, 1) := by decide +kernel
theorem dX9_refuseFull_0 : decode cX9_refuseFull 0 = .ok (.aload_n 0, 1) := by decide +kernel
theorem dX9_refuseFull_1 : decode cX9_refuseFull 1 = .ok (.dup, 1) := by decide +kernel
theorem dX9_refuseFull_2 : decode cX9_refuseFull 2 = .ok (.getfield 46, 3) := by decide +kernel
theorem dX9_refuseFull_5 : decode cX9_refuseFull 5 = .ok (.iconst 1, 1) := by decide +kernel
theorem dX9_refuseFull_6 : decode cX9_refuseFull 6 = .ok (.iadd, 1) := by decide +kernel
theorem dX9_refuseFull_7 : decode cX9_refuseFull 7 = .ok (.putfield 46, 3) := by decide +kernel
theorem dX9_refuseFull_10 : decode cX9_refuseFull 10 = .ok (.bipush (-4), 2) := by decide +kernel
theorem dX9_refuseFull_12 : decode cX9_refuseFull 12 = .ok (.ireturn, 1) := by decide +kernel
theorem dX9_come_0 : decode cX9_come 0 = .ok (.aload_n 0, 1) := by decide +kernel
theorem dX9_come_1 : decode cX9_come 1 = .ok (.getfield 7, 3) := by decide +kernel
theorem dX9_come_4 : decode cX9_come 4 = .ok (.aload_n 0, 1) := by decide +kernel
theorem dX9_come_5 : decode cX9_come 5 = .ok (.getfield 35, 3) := by decide +kernel
theorem dX9_come_8 : decode cX9_come 8 = .ok (.iload_n 1, 1) := by decide +kernel
theorem dX9_come_9 : decode cX9_come 9 = .ok (.iastore, 1) := by decide +kernel
theorem dX9_come_10 : decode cX9_come 10 = .ok (.aload_n 0, 1) := by decide +kernel
theorem dX9_come_11 : decode cX9_come 11 = .ok (.getfield 13, 3) := by decide +kernel
theorem dX9_come_14 : decode cX9_come 14 = .ok (.aload_n 0, 1) := by decide +kernel
theorem dX9_come_15 : decode cX9_come 15 = .ok (.getfield 35, 3) := by decide +kernel
theorem dX9_come_18 : decode cX9_come 18 = .ok (.iload_n 2, 1) := by decide +kernel
theorem dX9_come_19 : decode cX9_come 19 = .ok (.iastore, 1) := by decide +kernel
theorem dX9_come_20 : decode cX9_come 20 = .ok (.aload_n 0, 1) := by decide +kernel
theorem dX9_come_21 : decode cX9_come 21 = .ok (.getfield 16, 3) := by decide +kernel
theorem dX9_come_24 : decode cX9_come 24 = .ok (.aload_n 0, 1) := by decide +kernel
theorem dX9_come_25 : decode cX9_come 25 = .ok (.getfield 35, 3) := by decide +kernel
theorem dX9_come_28 : decode cX9_come 28 = .ok (.iconst 0, 1) := by decide +kernel
theorem dX9_come_29 : decode cX9_come 29 = .ok (.bastore, 1) := by decide +kernel
theorem dX9_come_30 : decode cX9_come 30 = .ok (.aload_n 0, 1) := by decide +kernel
theorem dX9_come_31 : decode cX9_come 31 = .ok (.dup, 1) := by decide +kernel
theorem dX9_come_32 : decode cX9_come 32 = .ok (.getfield 35, 3) := by decide +kernel
theorem dX9_come_35 : decode cX9_come 35 = .ok (.iconst 1, 1) := by decide +kernel
theorem dX9_come_36 : decode cX9_come 36 = .ok (.iadd, 1) := by decide +kernel
theorem dX9_come_37 : decode cX9_come 37 = .ok (.putfield 35, 3) := by decide +kernel
theorem dX9_come_40 : decode cX9_come 40 = .ok (.aload_n 0, 1) := by decide +kernel
theorem dX9_come_41 : decode cX9_come 41 = .ok (.getfield 35, 3) := by decide +kernel
theorem dX9_come_44 : decode cX9_come 44 = .ok (.iconst 1, 1) := by decide +kernel
theorem dX9_come_45 : decode cX9_come 45 = .ok (.isub, 1) := by decide +kernel
theorem dX9_come_46 : decode cX9_come 46 = .ok (.ireturn, 1) := by decide +kernel
set_option maxRecDepth 20000 in
theorem ggX9_add_X9_isVillage : GoodIn wsX9_add wsX9_isVillage := goodIn_r _ [7, 2, 8, 9, 6, 10, 28, 29, 30, 31, 32, 33, 34, 35, 36, 37, 38, 39, 40, 41, 42, 43, 44, 45, 46, 47, 48, 49] (by decide +kernel) (by decide +kernel)
set_option maxRecDepth 20000 in
theorem gX9_add_X9_isVillage : GoodIn wsX9_add (wsV RX9 49 RX9 yX9_isVillage wsX9_isVillage) := goodIn_app (goodIn_of _ (by decide +kernel)) ggX9_add_X9_isVillage
set_option maxRecDepth 20000 in
theorem ggX9_add_X9_in : GoodIn wsX9_add wsX9_in := goodIn_r _ [10] (by decide +kernel) (by decide +kernel)
set_option maxRecDepth 20000 in
theorem gX9_add_X9_in : GoodIn wsX9_add (va_wsS RX9 39 yX9_in wsX9_in) := goodIn_app (goodIn_of _ (by decide +kernel)) ggX9_add_X9_in
set_option maxRecDepth 20000 in
theorem ggX9_add_X9_refuse : GoodIn wsX9_add wsX9_refuse := goodIn_r _ [14, 15, 28, 29, 30, 31, 32, 33, 34, 35, 36, 37, 38, 39, 40, 41, 42, 43, 44, 45, 46, 47, 48, 49] (by decide +kernel) (by decide +kernel)
set_option maxRecDepth 20000 in
theorem gX9_add_X9_refuse : GoodIn wsX9_add (wsV RX9 55 RX9 yX9_refuse wsX9_refuse) := goodIn_app (goodIn_of _ (by decide +kernel)) ggX9_add_X9_refuse
set_option maxRecDepth 20000 in
theorem ggX9_add_X9_refuseFull : GoodIn wsX9_add wsX9_refuseFull := goodIn_r _ [19, 20, 28, 29, 30, 31, 32, 33, 34, 35, 36, 37, 38, 39, 40, 41, 42, 43, 44, 45, 46, 47, 48, 49] (by decide +kernel) (by decide +kernel)
set_option maxRecDepth 20000 in
theorem gX9_add_X9_refuseFull : GoodIn wsX9_add (wsV RX9 59 RX9 yX9_refuseFull wsX9_refuseFull) := goodIn_app (goodIn_of _ (by decide +kernel)) ggX9_add_X9_refuseFull
set_option maxRecDepth 20000 in
theorem ggX9_add_X9_come : GoodIn wsX9_add wsX9_come := goodIn_r _ [24, 25, 2, 26, 27, 28, 29, 30, 31, 32, 33, 34, 35, 36, 37, 38, 39, 40, 41, 42, 43, 44, 45, 46, 47, 48, 49] (by decide +kernel) (by decide +kernel)
set_option maxRecDepth 20000 in
theorem gX9_add_X9_come : GoodIn wsX9_add (wsV RX9 62 RX9 yX9_come wsX9_come) := goodIn_app (goodIn_of _ (by decide +kernel)) ggX9_add_X9_come
theorem dX9_add_0 : decode cX9_add 0 = .ok (.aload_n 0, 1) := by decide +kernel
theorem dX9_add_1 : decode cX9_add 1 = .ok (.iload_n 1, 1) := by decide +kernel
theorem dX9_add_2 : decode cX9_add 2 = .ok (.invokevirtual 49, 3) := by decide +kernel
theorem dX9_add_5 : decode cX9_add 5 = .ok (.ifCond .eq 15, 3) := by decide +kernel
theorem dX9_add_8 : decode cX9_add 8 = .ok (.iload_n 2, 1) := by decide +kernel
theorem dX9_add_9 : decode cX9_add 9 = .ok (.i2l, 1) := by decide +kernel
theorem dX9_add_10 : decode cX9_add 10 = .ok (.lconst 1, 1) := by decide +kernel
theorem dX9_add_11 : decode cX9_add 11 = .ok (.ldc2_w 53, 3) := by decide +kernel
theorem dX9_add_14 : decode cX9_add 14 = .ok (.invokestatic 39, 3) := by decide +kernel
theorem dX9_add_17 : decode cX9_add 17 = .ok (.ifCond .ne 8, 3) := by decide +kernel
theorem dX9_add_20 : decode cX9_add 20 = .ok (.aload_n 0, 1) := by decide +kernel
theorem dX9_add_21 : decode cX9_add 21 = .ok (.invokevirtual 55, 3) := by decide +kernel
theorem dX9_add_24 : decode cX9_add 24 = .ok (.ireturn, 1) := by decide +kernel
theorem dX9_add_25 : decode cX9_add 25 = .ok (.aload_n 0, 1) := by decide +kernel
theorem dX9_add_26 : decode cX9_add 26 = .ok (.getfield 35, 3) := by decide +kernel
theorem dX9_add_29 : decode cX9_add 29 = .ok (.bipush 60, 2) := by decide +kernel
theorem dX9_add_31 : decode cX9_add 31 = .ok (.if_icmp .ne 10, 3) := by decide +kernel
theorem dX9_add_34 : decode cX9_add 34 = .ok (.aload_n 0, 1) := by decide +kernel
theorem dX9_add_35 : decode cX9_add 35 = .ok (.invokevirtual 59, 3) := by decide +kernel
theorem dX9_add_38 : decode cX9_add 38 = .ok (.goto 9, 3) := by decide +kernel
theorem dX9_add_41 : decode cX9_add 41 = .ok (.aload_n 0, 1) := by decide +kernel
theorem dX9_add_42 : decode cX9_add 42 = .ok (.iload_n 1, 1) := by decide +kernel
theorem dX9_add_43 : decode cX9_add 43 = .ok (.iload_n 2, 1) := by decide +kernel
theorem dX9_add_44 : decode cX9_add 44 = .ok (.invokevirtual 62, 3) := by decide +kernel
theorem dX9_add_47 : decode cX9_add 47 = .ok (.ireturn, 1) := by decide +kernel
theorem dX9_becomes_0 : decode cX9_becomes 0 = .ok (.aload_n 0, 1) := by decide +kernel
theorem dX9_becomes_1 : decode cX9_becomes 1 = .ok (.getfield 16, 3) := by decide +kernel
theorem dX9_becomes_4 : decode cX9_becomes 4 = .ok (.iload_n 1, 1) := by decide +kernel
theorem dX9_becomes_5 : decode cX9_becomes 5 = .ok (.baload, 1) := by decide +kernel
theorem dX9_becomes_6 : decode cX9_becomes 6 = .ok (.istore_n 3, 1) := by decide +kernel
theorem dX9_becomes_7 : decode cX9_becomes 7 = .ok (.aload_n 0, 1) := by decide +kernel
theorem dX9_becomes_8 : decode cX9_becomes 8 = .ok (.getfield 16, 3) := by decide +kernel
theorem dX9_becomes_11 : decode cX9_becomes 11 = .ok (.iload_n 1, 1) := by decide +kernel
theorem dX9_becomes_12 : decode cX9_becomes 12 = .ok (.iload_n 2, 1) := by decide +kernel
theorem dX9_becomes_13 : decode cX9_becomes 13 = .ok (.bastore, 1) := by decide +kernel
theorem dX9_becomes_14 : decode cX9_becomes 14 = .ok (.iload_n 3, 1) := by decide +kernel
theorem dX9_becomes_15 : decode cX9_becomes 15 = .ok (.iload_n 2, 1) := by decide +kernel
theorem dX9_becomes_16 : decode cX9_becomes 16 = .ok (.if_icmp .ne 7, 3) := by decide +kernel
theorem dX9_becomes_19 : decode cX9_becomes 19 = .ok (.iconst 0, 1) := by decide +kernel
theorem dX9_becomes_20 : decode cX9_becomes 20 = .ok (.goto 4, 3) := by decide +kernel
theorem dX9_becomes_23 : decode cX9_becomes 23 = .ok (.iconst 1, 1) := by decide +kernel
theorem dX9_becomes_24 : decode cX9_becomes 24 = .ok (.ireturn, 1) := by decide +kernel
set_option maxRecDepth 20000 in
theorem ggX9_depot_X9_isVillage : GoodIn wsX9_depot wsX9_isVillage := goodIn_r _ [5, 6, 7, 8, 4, 9, 20, 21, 22, 23, 24, 25, 26, 27, 28, 29, 30, 31, 32, 33, 34, 35, 36, 37, 38, 39, 40, 41] (by decide +kernel) (by decide +kernel)
set_option maxRecDepth 20000 in
theorem gX9_depot_X9_isVillage : GoodIn wsX9_depot (wsV RX9 49 RX9 yX9_isVillage wsX9_isVillage) := goodIn_app (goodIn_of _ (by decide +kernel)) ggX9_depot_X9_isVillage
set_option maxRecDepth 20000 in
theorem ggX9_depot_X9_in : GoodIn wsX9_depot wsX9_in := goodIn_r _ [9] (by decide +kernel) (by decide +kernel)
set_option maxRecDepth 20000 in
theorem gX9_depot_X9_in : GoodIn wsX9_depot (va_wsS RX9 39 yX9_in wsX9_in) := goodIn_app (goodIn_of _ (by decide +kernel)) ggX9_depot_X9_in
set_option maxRecDepth 20000 in
theorem ggX9_depot_X9_becomes : GoodIn wsX9_depot wsX9_becomes := goodIn_r _ [13, 14, 20, 21, 22, 23, 24, 25, 26, 27, 28, 29, 30, 31, 32, 33, 34, 35, 36, 37, 38, 39, 40, 41] (by decide +kernel) (by decide +kernel)
set_option maxRecDepth 20000 in
theorem gX9_depot_X9_becomes : GoodIn wsX9_depot (wsV RX9 66 RX9 yX9_becomes wsX9_becomes) := goodIn_app (goodIn_of _ (by decide +kernel)) ggX9_depot_X9_becomes
set_option maxRecDepth 20000 in
theorem ggX9_depot_X9_refuse : GoodIn wsX9_depot wsX9_refuse := goodIn_r _ [18, 19, 20, 21, 22, 23, 24, 25, 26, 27, 28, 29, 30, 31, 32, 33, 34, 35, 36, 37, 38, 39, 40, 41] (by decide +kernel) (by decide +kernel)
set_option maxRecDepth 20000 in
theorem gX9_depot_X9_refuse : GoodIn wsX9_depot (wsV RX9 55 RX9 yX9_refuse wsX9_refuse) := goodIn_app (goodIn_of _ (by decide +kernel)) ggX9_depot_X9_refuse
theorem dX9_depot_0 : decode cX9_depot 0 = .ok (.aload_n 0, 1) := by decide +kernel
theorem dX9_depot_1 : decode cX9_depot 1 = .ok (.iload_n 1, 1) := by decide +kernel
theorem dX9_depot_2 : decode cX9_depot 2 = .ok (.invokevirtual 49, 3) := by decide +kernel
theorem dX9_depot_5 : decode cX9_depot 5 = .ok (.ifCond .eq 31, 3) := by decide +kernel
theorem dX9_depot_8 : decode cX9_depot 8 = .ok (.iload_n 2, 1) := by decide +kernel
theorem dX9_depot_9 : decode cX9_depot 9 = .ok (.i2l, 1) := by decide +kernel
theorem dX9_depot_10 : decode cX9_depot 10 = .ok (.lconst 0, 1) := by decide +kernel
theorem dX9_depot_11 : decode cX9_depot 11 = .ok (.lconst 1, 1) := by decide +kernel
theorem dX9_depot_12 : decode cX9_depot 12 = .ok (.invokestatic 39, 3) := by decide +kernel
theorem dX9_depot_15 : decode cX9_depot 15 = .ok (.ifCond .eq 21, 3) := by decide +kernel
theorem dX9_depot_18 : decode cX9_depot 18 = .ok (.aload_n 0, 1) := by decide +kernel
theorem dX9_depot_19 : decode cX9_depot 19 = .ok (.iload_n 1, 1) := by decide +kernel
theorem dX9_depot_20 : decode cX9_depot 20 = .ok (.iload_n 2, 1) := by decide +kernel
theorem dX9_depot_21 : decode cX9_depot 21 = .ok (.iconst 1, 1) := by decide +kernel
theorem dX9_depot_22 : decode cX9_depot 22 = .ok (.if_icmp .ne 7, 3) := by decide +kernel
theorem dX9_depot_25 : decode cX9_depot 25 = .ok (.iconst 1, 1) := by decide +kernel
theorem dX9_depot_26 : decode cX9_depot 26 = .ok (.goto 4, 3) := by decide +kernel
theorem dX9_depot_29 : decode cX9_depot 29 = .ok (.iconst 0, 1) := by decide +kernel
theorem dX9_depot_30 : decode cX9_depot 30 = .ok (.invokevirtual 66, 3) := by decide +kernel
theorem dX9_depot_33 : decode cX9_depot 33 = .ok (.goto 7, 3) := by decide +kernel
theorem dX9_depot_36 : decode cX9_depot 36 = .ok (.aload_n 0, 1) := by decide +kernel
theorem dX9_depot_37 : decode cX9_depot 37 = .ok (.invokevirtual 55, 3) := by decide +kernel
theorem dX9_depot_40 : decode cX9_depot 40 = .ok (.ireturn, 1) := by decide +kernel
theorem dX9_lengthen_0 : decode cX9_lengthen 0 = .ok (.aload_n 0, 1) := by decide +kernel
theorem dX9_lengthen_1 : decode cX9_lengthen 1 = .ok (.getfield 13, 3) := by decide +kernel
theorem dX9_lengthen_4 : decode cX9_lengthen 4 = .ok (.iload_n 1, 1) := by decide +kernel
theorem dX9_lengthen_5 : decode cX9_lengthen 5 = .ok (.iaload, 1) := by decide +kernel
theorem dX9_lengthen_6 : decode cX9_lengthen 6 = .ok (.istore_n 3, 1) := by decide +kernel
theorem dX9_lengthen_7 : decode cX9_lengthen 7 = .ok (.aload_n 0, 1) := by decide +kernel
theorem dX9_lengthen_8 : decode cX9_lengthen 8 = .ok (.getfield 13, 3) := by decide +kernel
theorem dX9_lengthen_11 : decode cX9_lengthen 11 = .ok (.iload_n 1, 1) := by decide +kernel
theorem dX9_lengthen_12 : decode cX9_lengthen 12 = .ok (.iload_n 2, 1) := by decide +kernel
theorem dX9_lengthen_13 : decode cX9_lengthen 13 = .ok (.iastore, 1) := by decide +kernel
theorem dX9_lengthen_14 : decode cX9_lengthen 14 = .ok (.iload_n 3, 1) := by decide +kernel
theorem dX9_lengthen_15 : decode cX9_lengthen 15 = .ok (.ireturn, 1) := by decide +kernel
set_option maxRecDepth 20000 in
theorem ggX9_road_X9_isVillage : GoodIn wsX9_road wsX9_isVillage := goodIn_r _ [6, 7, 8, 9, 5, 10, 21, 22, 23, 24, 25, 26, 27, 28, 29, 30, 31, 32, 33, 34, 35, 36, 37, 38, 39, 40, 41, 42] (by decide +kernel) (by decide +kernel)
set_option maxRecDepth 20000 in
theorem gX9_road_X9_isVillage : GoodIn wsX9_road (wsV RX9 49 RX9 yX9_isVillage wsX9_isVillage) := goodIn_app (goodIn_of _ (by decide +kernel)) ggX9_road_X9_isVillage
set_option maxRecDepth 20000 in
theorem ggX9_road_X9_in : GoodIn wsX9_road wsX9_in := goodIn_r _ [10] (by decide +kernel) (by decide +kernel)
set_option maxRecDepth 20000 in
theorem gX9_road_X9_in : GoodIn wsX9_road (va_wsS RX9 39 yX9_in wsX9_in) := goodIn_app (goodIn_of _ (by decide +kernel)) ggX9_road_X9_in
set_option maxRecDepth 20000 in
theorem ggX9_road_X9_lengthen : GoodIn wsX9_road wsX9_lengthen := goodIn_r _ [14, 15, 21, 22, 23, 24, 25, 26, 27, 28, 29, 30, 31, 32, 33, 34, 35, 36, 37, 38, 39, 40, 41, 42] (by decide +kernel) (by decide +kernel)
set_option maxRecDepth 20000 in
theorem gX9_road_X9_lengthen : GoodIn wsX9_road (wsV RX9 70 RX9 yX9_lengthen wsX9_lengthen) := goodIn_app (goodIn_of _ (by decide +kernel)) ggX9_road_X9_lengthen
set_option maxRecDepth 20000 in
theorem ggX9_road_X9_refuse : GoodIn wsX9_road wsX9_refuse := goodIn_r _ [19, 20, 21, 22, 23, 24, 25, 26, 27, 28, 29, 30, 31, 32, 33, 34, 35, 36, 37, 38, 39, 40, 41, 42] (by decide +kernel) (by decide +kernel)
set_option maxRecDepth 20000 in
theorem gX9_road_X9_refuse : GoodIn wsX9_road (wsV RX9 55 RX9 yX9_refuse wsX9_refuse) := goodIn_app (goodIn_of _ (by decide +kernel)) ggX9_road_X9_refuse
theorem dX9_road_0 : decode cX9_road 0 = .ok (.aload_n 0, 1) := by decide +kernel
theorem dX9_road_1 : decode cX9_road 1 = .ok (.iload_n 1, 1) := by decide +kernel
theorem dX9_road_2 : decode cX9_road 2 = .ok (.invokevirtual 49, 3) := by decide +kernel
theorem dX9_road_5 : decode cX9_road 5 = .ok (.ifCond .eq 28, 3) := by decide +kernel
theorem dX9_road_8 : decode cX9_road 8 = .ok (.iload_n 1, 1) := by decide +kernel
theorem dX9_road_9 : decode cX9_road 9 = .ok (.ifCond .le 24, 3) := by decide +kernel
theorem dX9_road_12 : decode cX9_road 12 = .ok (.iload_n 2, 1) := by decide +kernel
theorem dX9_road_13 : decode cX9_road 13 = .ok (.i2l, 1) := by decide +kernel
theorem dX9_road_14 : decode cX9_road 14 = .ok (.lconst 1, 1) := by decide +kernel
theorem dX9_road_15 : decode cX9_road 15 = .ok (.ldc2_w 53, 3) := by decide +kernel
theorem dX9_road_18 : decode cX9_road 18 = .ok (.invokestatic 39, 3) := by decide +kernel
theorem dX9_road_21 : decode cX9_road 21 = .ok (.ifCond .eq 12, 3) := by decide +kernel
theorem dX9_road_24 : decode cX9_road 24 = .ok (.aload_n 0, 1) := by decide +kernel
theorem dX9_road_25 : decode cX9_road 25 = .ok (.iload_n 1, 1) := by decide +kernel
theorem dX9_road_26 : decode cX9_road 26 = .ok (.iload_n 2, 1) := by decide +kernel
theorem dX9_road_27 : decode cX9_road 27 = .ok (.invokevirtual 70, 3) := by decide +kernel
theorem dX9_road_30 : decode cX9_road 30 = .ok (.goto 7, 3) := by decide +kernel
theorem dX9_road_33 : decode cX9_road 33 = .ok (.aload_n 0, 1) := by decide +kernel
theorem dX9_road_34 : decode cX9_road 34 = .ok (.invokevirtual 55, 3) := by decide +kernel
theorem dX9_road_37 : decode cX9_road 37 = .ok (.ireturn, 1) := by decide +kernel
theorem dX9_anew_0 : decode cX9_anew 0 = .ok (.aload_n 0, 1) := by decide +kernel
theorem dX9_anew_1 : decode cX9_anew 1 = .ok (.getfield 35, 3) := by decide +kernel
theorem dX9_anew_4 : decode cX9_anew 4 = .ok (.istore_n 1, 1) := by decide +kernel
theorem dX9_anew_5 : decode cX9_anew 5 = .ok (.aload_n 0, 1) := by decide +kernel
theorem dX9_anew_6 : decode cX9_anew 6 = .ok (.iconst 1, 1) := by decide +kernel
theorem dX9_anew_7 : decode cX9_anew 7 = .ok (.putfield 35, 3) := by decide +kernel
theorem dX9_anew_10 : decode cX9_anew 10 = .ok (.aload_n 0, 1) := by decide +kernel
theorem dX9_anew_11 : decode cX9_anew 11 = .ok (.getfield 16, 3) := by decide +kernel
theorem dX9_anew_14 : decode cX9_anew 14 = .ok (.iconst 0, 1) := by decide +kernel
theorem dX9_anew_15 : decode cX9_anew 15 = .ok (.iconst 0, 1) := by decide +kernel
theorem dX9_anew_16 : decode cX9_anew 16 = .ok (.bastore, 1) := by decide +kernel
theorem dX9_anew_17 : decode cX9_anew 17 = .ok (.iload_n 1, 1) := by decide +kernel
theorem dX9_anew_18 : decode cX9_anew 18 = .ok (.ireturn, 1) := by decide +kernel
set_option maxRecDepth 20000 in
theorem ggX9_draw_X9_in : GoodIn wsX9_draw wsX9_in := goodIn_r _ [15] (by decide +kernel) (by decide +kernel)
set_option maxRecDepth 20000 in
theorem gX9_draw_X9_in : GoodIn wsX9_draw (va_wsS RX9 39 yX9_in wsX9_in) := goodIn_app (goodIn_of _ (by decide +kernel)) ggX9_draw_X9_in
set_option maxRecDepth 20000 in
theorem ggX9_draw_X9_refuse : GoodIn wsX9_draw wsX9_refuse := goodIn_r _ [19, 20, 31, 32, 33, 34, 35, 36, 37, 38, 39, 40, 41, 42, 43, 44, 45, 46, 47, 48, 49, 50, 51, 52] (by decide +kernel) (by decide +kernel)
set_option maxRecDepth 20000 in
theorem gX9_draw_X9_refuse : GoodIn wsX9_draw (wsV RX9 55 RX9 yX9_refuse wsX9_refuse) := goodIn_app (goodIn_of _ (by decide +kernel)) ggX9_draw_X9_refuse
set_option maxRecDepth 20000 in
theorem ggX9_draw_X9_anew : GoodIn wsX9_draw wsX9_anew := goodIn_r _ [24, 7, 9, 31, 32, 33, 34, 35, 36, 37, 38, 39, 40, 41, 42, 43, 44, 45, 46, 47, 48, 49, 50, 51, 52] (by decide +kernel) (by decide +kernel)
set_option maxRecDepth 20000 in
theorem gX9_draw_X9_anew : GoodIn wsX9_draw (wsV RX9 77 RX9 yX9_anew wsX9_anew) := goodIn_app (goodIn_of _ (by decide +kernel)) ggX9_draw_X9_anew
set_option maxRecDepth 20000 in
theorem ggX9_draw_X9_come : GoodIn wsX9_draw wsX9_come := goodIn_r _ [28, 29, 7, 30, 9, 31, 32, 33, 34, 35, 36, 37, 38, 39, 40, 41, 42, 43, 44, 45, 46, 47, 48, 49, 50, 51, 52] (by decide +kernel) (by decide +kernel)
set_option maxRecDepth 20000 in
theorem gX9_draw_X9_come : GoodIn wsX9_draw (wsV RX9 62 RX9 yX9_come wsX9_come) := goodIn_app (goodIn_of _ (by decide +kernel)) ggX9_draw_X9_come
theorem dX9_draw_0 : decode cX9_draw 0 = .ok (.iload_n 1, 1) := by decide +kernel
theorem dX9_draw_1 : decode cX9_draw 1 = .ok (.i2l, 1) := by decide +kernel
theorem dX9_draw_2 : decode cX9_draw 2 = .ok (.lconst 0, 1) := by decide +kernel
theorem dX9_draw_3 : decode cX9_draw 3 = .ok (.ldc2_w 73, 3) := by decide +kernel
theorem dX9_draw_6 : decode cX9_draw 6 = .ok (.invokestatic 39, 3) := by decide +kernel
theorem dX9_draw_9 : decode cX9_draw 9 = .ok (.ifCond .eq 15, 3) := by decide +kernel
theorem dX9_draw_12 : decode cX9_draw 12 = .ok (.iload_n 2, 1) := by decide +kernel
theorem dX9_draw_13 : decode cX9_draw 13 = .ok (.i2l, 1) := by decide +kernel
theorem dX9_draw_14 : decode cX9_draw 14 = .ok (.lconst 0, 1) := by decide +kernel
theorem dX9_draw_15 : decode cX9_draw 15 = .ok (.ldc2_w 75, 3) := by decide +kernel
theorem dX9_draw_18 : decode cX9_draw 18 = .ok (.invokestatic 39, 3) := by decide +kernel
theorem dX9_draw_21 : decode cX9_draw 21 = .ok (.ifCond .ne 8, 3) := by decide +kernel
theorem dX9_draw_24 : decode cX9_draw 24 = .ok (.aload_n 0, 1) := by decide +kernel
theorem dX9_draw_25 : decode cX9_draw 25 = .ok (.invokevirtual 55, 3) := by decide +kernel
theorem dX9_draw_28 : decode cX9_draw 28 = .ok (.ireturn, 1) := by decide +kernel
theorem dX9_draw_29 : decode cX9_draw 29 = .ok (.aload_n 0, 1) := by decide +kernel
theorem dX9_draw_30 : decode cX9_draw 30 = .ok (.invokevirtual 77, 3) := by decide +kernel
theorem dX9_draw_33 : decode cX9_draw 33 = .ok (.pop, 1) := by decide +kernel
theorem dX9_draw_34 : decode cX9_draw 34 = .ok (.iload_n 1, 1) := by decide +kernel
theorem dX9_draw_35 : decode cX9_draw 35 = .ok (.i2l, 1) := by decide +kernel
theorem dX9_draw_36 : decode cX9_draw 36 = .ok (.lstore_n 3, 1) := by decide +kernel
theorem dX9_draw_37 : decode cX9_draw 37 = .ok (.iconst 0, 1) := by decide +kernel
theorem dX9_draw_38 : decode cX9_draw 38 = .ok (.istore 5, 2) := by decide +kernel
theorem dX9_draw_40 : decode cX9_draw 40 = .ok (.iconst 0, 1) := by decide +kernel
theorem dX9_draw_41 : decode cX9_draw 41 = .ok (.istore 6, 2) := by decide +kernel
theorem dX9_draw_43 : decode cX9_draw 43 = .ok (.iload 6, 2) := by decide +kernel
theorem dX9_draw_45 : decode cX9_draw 45 = .ok (.iload_n 2, 1) := by decide +kernel
theorem dX9_draw_46 : decode cX9_draw 46 = .ok (.if_icmp .ge 97, 3) := by decide +kernel
theorem dX9_draw_49 : decode cX9_draw 49 = .ok (.lload_n 3, 1) := by decide +kernel
theorem dX9_draw_50 : decode cX9_draw 50 = .ok (.ldc2_w 80, 3) := by decide +kernel
theorem dX9_draw_53 : decode cX9_draw 53 = .ok (.lmul, 1) := by decide +kernel
theorem dX9_draw_54 : decode cX9_draw 54 = .ok (.ldc2_w 82, 3) := by decide +kernel
theorem dX9_draw_57 : decode cX9_draw 57 = .ok (.ladd, 1) := by decide +kernel
theorem dX9_draw_58 : decode cX9_draw 58 = .ok (.ldc2_w 84, 3) := by decide +kernel
theorem dX9_draw_61 : decode cX9_draw 61 = .ok (.lrem, 1) := by decide +kernel
theorem dX9_draw_62 : decode cX9_draw 62 = .ok (.lstore_n 3, 1) := by decide +kernel
theorem dX9_draw_63 : decode cX9_draw 63 = .ok (.aload_n 0, 1) := by decide +kernel
theorem dX9_draw_64 : decode cX9_draw 64 = .ok (.lload_n 3, 1) := by decide +kernel
theorem dX9_draw_65 : decode cX9_draw 65 = .ok (.ldc2_w 86, 3) := by decide +kernel
theorem dX9_draw_68 : decode cX9_draw 68 = .ok (.ldiv, 1) := by decide +kernel
theorem dX9_draw_69 : decode cX9_draw 69 = .ok (.l2i, 1) := by decide +kernel
theorem dX9_draw_70 : decode cX9_draw 70 = .ok (.aload_n 0, 1) := by decide +kernel
theorem dX9_draw_71 : decode cX9_draw 71 = .ok (.getfield 35, 3) := by decide +kernel
theorem dX9_draw_74 : decode cX9_draw 74 = .ok (.irem, 1) := by decide +kernel
theorem dX9_draw_75 : decode cX9_draw 75 = .ok (.lload_n 3, 1) := by decide +kernel
theorem dX9_draw_76 : decode cX9_draw 76 = .ok (.ldc2_w 88, 3) := by decide +kernel
theorem dX9_draw_79 : decode cX9_draw 79 = .ok (.ldiv, 1) := by decide +kernel
theorem dX9_draw_80 : decode cX9_draw 80 = .ok (.l2i, 1) := by decide +kernel
theorem dX9_draw_81 : decode cX9_draw 81 = .ok (.bipush 99, 2) := by decide +kernel
theorem dX9_draw_83 : decode cX9_draw 83 = .ok (.irem, 1) := by decide +kernel
theorem dX9_draw_84 : decode cX9_draw 84 = .ok (.iconst 1, 1) := by decide +kernel
theorem dX9_draw_85 : decode cX9_draw 85 = .ok (.iadd, 1) := by decide +kernel
theorem dX9_draw_86 : decode cX9_draw 86 = .ok (.invokevirtual 62, 3) := by decide +kernel
theorem dX9_draw_89 : decode cX9_draw 89 = .ok (.istore 7, 2) := by decide +kernel
theorem dX9_draw_91 : decode cX9_draw 91 = .ok (.aload_n 0, 1) := by decide +kernel
theorem dX9_draw_92 : decode cX9_draw 92 = .ok (.getfield 16, 3) := by decide +kernel
theorem dX9_draw_95 : decode cX9_draw 95 = .ok (.iload 7, 2) := by decide +kernel
theorem dX9_draw_97 : decode cX9_draw 97 = .ok (.lload_n 3, 1) := by decide +kernel
theorem dX9_draw_98 : decode cX9_draw 98 = .ok (.ldc2_w 90, 3) := by decide +kernel
theorem dX9_draw_101 : decode cX9_draw 101 = .ok (.ldiv, 1) := by decide +kernel
theorem dX9_draw_102 : decode cX9_draw 102 = .ok (.ldc2_w 92, 3) := by decide +kernel
theorem dX9_draw_105 : decode cX9_draw 105 = .ok (.lrem, 1) := by decide +kernel
theorem dX9_draw_106 : decode cX9_draw 106 = .ok (.lconst 0, 1) := by decide +kernel
theorem dX9_draw_107 : decode cX9_draw 107 = .ok (.lcmp, 1) := by decide +kernel
theorem dX9_draw_108 : decode cX9_draw 108 = .ok (.ifCond .ne 7, 3) := by decide +kernel
theorem dX9_draw_111 : decode cX9_draw 111 = .ok (.iconst 1, 1) := by decide +kernel
theorem dX9_draw_112 : decode cX9_draw 112 = .ok (.goto 4, 3) := by decide +kernel
theorem dX9_draw_115 : decode cX9_draw 115 = .ok (.iconst 0, 1) := by decide +kernel
theorem dX9_draw_116 : decode cX9_draw 116 = .ok (.bastore, 1) := by decide +kernel
theorem dX9_draw_117 : decode cX9_draw 117 = .ok (.iload 5, 2) := by decide +kernel
theorem dX9_draw_119 : decode cX9_draw 119 = .ok (.aload_n 0, 1) := by decide +kernel
theorem dX9_draw_120 : decode cX9_draw 120 = .ok (.getfield 16, 3) := by decide +kernel
theorem dX9_draw_123 : decode cX9_draw 123 = .ok (.iload 7, 2) := by decide +kernel
theorem dX9_draw_125 : decode cX9_draw 125 = .ok (.baload, 1) := by decide +kernel
theorem dX9_draw_126 : decode cX9_draw 126 = .ok (.ifCond .eq 7, 3) := by decide +kernel
theorem dX9_draw_129 : decode cX9_draw 129 = .ok (.iconst 1, 1) := by decide +kernel
theorem dX9_draw_130 : decode cX9_draw 130 = .ok (.goto 4, 3) := by decide +kernel
theorem dX9_draw_133 : decode cX9_draw 133 = .ok (.iconst 0, 1) := by decide +kernel
theorem dX9_draw_134 : decode cX9_draw 134 = .ok (.iadd, 1) := by decide +kernel
theorem dX9_draw_135 : decode cX9_draw 135 = .ok (.istore 5, 2) := by decide +kernel
theorem dX9_draw_137 : decode cX9_draw 137 = .ok (.iinc 6 1, 3) := by decide +kernel
theorem dX9_draw_140 : decode cX9_draw 140 = .ok (.goto (-97), 3) := by decide +kernel
theorem dX9_draw_143 : decode cX9_draw 143 = .ok (.iload 5, 2) := by decide +kernel
theorem dX9_draw_145 : decode cX9_draw 145 = .ok (.ireturn, 1) := by decide +kernel
set_option maxRecDepth 20000 in
theorem ggX9_of_X9_isVillage : GoodIn wsX9_of wsX9_isVillage := goodIn_r _ [8, 2, 9, 10, 7, 11, 23, 24, 25, 26, 27, 28, 29, 30, 31, 32, 33, 34, 35, 36, 37, 38, 39, 40, 41, 42, 43, 44] (by decide +kernel) (by decide +kernel)
set_option maxRecDepth 20000 in
theorem gX9_of_X9_isVillage : GoodIn wsX9_of (wsV RX9 49 RX9 yX9_isVillage wsX9_isVillage) := goodIn_app (goodIn_of _ (by decide +kernel)) ggX9_of_X9_isVillage
set_option maxRecDepth 20000 in
theorem ggX9_of_X9_in : GoodIn wsX9_of wsX9_in := goodIn_r _ [11] (by decide +kernel) (by decide +kernel)
set_option maxRecDepth 20000 in
theorem gX9_of_X9_in : GoodIn wsX9_of (va_wsS RX9 39 yX9_in wsX9_in) := goodIn_app (goodIn_of _ (by decide +kernel)) ggX9_of_X9_in
set_option maxRecDepth 20000 in
theorem ggX9_of_X9_refuse : GoodIn wsX9_of wsX9_refuse := goodIn_r _ [15, 16, 23, 24, 25, 26, 27, 28, 29, 30, 31, 32, 33, 34, 35, 36, 37, 38, 39, 40, 41, 42, 43, 44] (by decide +kernel) (by decide +kernel)
set_option maxRecDepth 20000 in
theorem gX9_of_X9_refuse : GoodIn wsX9_of (wsV RX9 55 RX9 yX9_refuse wsX9_refuse) := goodIn_app (goodIn_of _ (by decide +kernel)) ggX9_of_X9_refuse
set_option maxRecDepth 20000 in
theorem ggX9_of_X9_partOf : GoodIn wsX9_of wsX9_partOf := goodIn_r _ [20, 3, 21, 22, 23, 24, 25, 26, 27, 28, 29, 30, 31, 32, 33, 34, 35, 36, 37, 38, 39, 40, 41, 42, 43, 44] (by decide +kernel) (by decide +kernel)
set_option maxRecDepth 20000 in
theorem gX9_of_X9_partOf : GoodIn wsX9_of (wsV RX9 96 RX9 yX9_partOf wsX9_partOf) := goodIn_app (goodIn_of _ (by decide +kernel)) ggX9_of_X9_partOf
theorem dX9_of_0 : decode cX9_of 0 = .ok (.aload_n 0, 1) := by decide +kernel
theorem dX9_of_1 : decode cX9_of 1 = .ok (.iload_n 1, 1) := by decide +kernel
theorem dX9_of_2 : decode cX9_of 2 = .ok (.invokevirtual 49, 3) := by decide +kernel
theorem dX9_of_5 : decode cX9_of 5 = .ok (.ifCond .eq 15, 3) := by decide +kernel
theorem dX9_of_8 : decode cX9_of 8 = .ok (.iload_n 2, 1) := by decide +kernel
theorem dX9_of_9 : decode cX9_of 9 = .ok (.i2l, 1) := by decide +kernel
theorem dX9_of_10 : decode cX9_of 10 = .ok (.lconst 0, 1) := by decide +kernel
theorem dX9_of_11 : decode cX9_of 11 = .ok (.ldc2_w 94, 3) := by decide +kernel
theorem dX9_of_14 : decode cX9_of 14 = .ok (.invokestatic 39, 3) := by decide +kernel
theorem dX9_of_17 : decode cX9_of 17 = .ok (.ifCond .ne 8, 3) := by decide +kernel
theorem dX9_of_20 : decode cX9_of 20 = .ok (.aload_n 0, 1) := by decide +kernel
theorem dX9_of_21 : decode cX9_of 21 = .ok (.invokevirtual 55, 3) := by decide +kernel
theorem dX9_of_24 : decode cX9_of 24 = .ok (.ireturn, 1) := by decide +kernel
theorem dX9_of_25 : decode cX9_of 25 = .ok (.iload_n 2, 1) := by decide +kernel
theorem dX9_of_26 : decode cX9_of 26 = .ok (.iconst 3, 1) := by decide +kernel
theorem dX9_of_27 : decode cX9_of 27 = .ok (.if_icmp .ne 52, 3) := by decide +kernel
theorem dX9_of_30 : decode cX9_of 30 = .ok (.iload_n 1, 1) := by decide +kernel
theorem dX9_of_31 : decode cX9_of 31 = .ok (.ifCond .le 7, 3) := by decide +kernel
theorem dX9_of_34 : decode cX9_of 34 = .ok (.iconst 1, 1) := by decide +kernel
theorem dX9_of_35 : decode cX9_of 35 = .ok (.goto 4, 3) := by decide +kernel
theorem dX9_of_38 : decode cX9_of 38 = .ok (.iconst 0, 1) := by decide +kernel
theorem dX9_of_39 : decode cX9_of 39 = .ok (.istore_n 3, 1) := by decide +kernel
theorem dX9_of_40 : decode cX9_of 40 = .ok (.iconst 1, 1) := by decide +kernel
theorem dX9_of_41 : decode cX9_of 41 = .ok (.istore 4, 2) := by decide +kernel
theorem dX9_of_43 : decode cX9_of 43 = .ok (.iload 4, 2) := by decide +kernel
theorem dX9_of_45 : decode cX9_of 45 = .ok (.aload_n 0, 1) := by decide +kernel
theorem dX9_of_46 : decode cX9_of 46 = .ok (.getfield 35, 3) := by decide +kernel
theorem dX9_of_49 : decode cX9_of 49 = .ok (.if_icmp .ge 28, 3) := by decide +kernel
theorem dX9_of_52 : decode cX9_of 52 = .ok (.iload_n 3, 1) := by decide +kernel
theorem dX9_of_53 : decode cX9_of 53 = .ok (.aload_n 0, 1) := by decide +kernel
theorem dX9_of_54 : decode cX9_of 54 = .ok (.getfield 7, 3) := by decide +kernel
theorem dX9_of_57 : decode cX9_of 57 = .ok (.iload 4, 2) := by decide +kernel
theorem dX9_of_59 : decode cX9_of 59 = .ok (.iaload, 1) := by decide +kernel
theorem dX9_of_60 : decode cX9_of 60 = .ok (.iload_n 1, 1) := by decide +kernel
theorem dX9_of_61 : decode cX9_of 61 = .ok (.if_icmp .ne 7, 3) := by decide +kernel
theorem dX9_of_64 : decode cX9_of 64 = .ok (.iconst 1, 1) := by decide +kernel
theorem dX9_of_65 : decode cX9_of 65 = .ok (.goto 4, 3) := by decide +kernel
theorem dX9_of_68 : decode cX9_of 68 = .ok (.iconst 0, 1) := by decide +kernel
theorem dX9_of_69 : decode cX9_of 69 = .ok (.iadd, 1) := by decide +kernel
theorem dX9_of_70 : decode cX9_of 70 = .ok (.istore_n 3, 1) := by decide +kernel
theorem dX9_of_71 : decode cX9_of 71 = .ok (.iinc 4 1, 3) := by decide +kernel
theorem dX9_of_74 : decode cX9_of 74 = .ok (.goto (-31), 3) := by decide +kernel
theorem dX9_of_77 : decode cX9_of 77 = .ok (.iload_n 3, 1) := by decide +kernel
theorem dX9_of_78 : decode cX9_of 78 = .ok (.ireturn, 1) := by decide +kernel
theorem dX9_of_79 : decode cX9_of 79 = .ok (.aload_n 0, 1) := by decide +kernel
theorem dX9_of_80 : decode cX9_of 80 = .ok (.iload_n 1, 1) := by decide +kernel
theorem dX9_of_81 : decode cX9_of 81 = .ok (.iload_n 2, 1) := by decide +kernel
theorem dX9_of_82 : decode cX9_of 82 = .ok (.invokevirtual 96, 3) := by decide +kernel
theorem dX9_of_85 : decode cX9_of 85 = .ok (.ireturn, 1) := by decide +kernel
theorem dX9_partOf_0 : decode cX9_partOf 0 = .ok (.iload_n 2, 1) := by decide +kernel
theorem dX9_partOf_1 : decode cX9_partOf 1 = .ok (.ifCond .ne 12, 3) := by decide +kernel
theorem dX9_partOf_4 : decode cX9_partOf 4 = .ok (.aload_n 0, 1) := by decide +kernel
theorem dX9_partOf_5 : decode cX9_partOf 5 = .ok (.getfield 7, 3) := by decide +kernel
theorem dX9_partOf_8 : decode cX9_partOf 8 = .ok (.iload_n 1, 1) := by decide +kernel
theorem dX9_partOf_9 : decode cX9_partOf 9 = .ok (.iaload, 1) := by decide +kernel
theorem dX9_partOf_10 : decode cX9_partOf 10 = .ok (.goto 39, 3) := by decide +kernel
theorem dX9_partOf_13 : decode cX9_partOf 13 = .ok (.iload_n 2, 1) := by decide +kernel
theorem dX9_partOf_14 : decode cX9_partOf 14 = .ok (.iconst 1, 1) := by decide +kernel
theorem dX9_partOf_15 : decode cX9_partOf 15 = .ok (.if_icmp .ne 20, 3) := by decide +kernel
theorem dX9_partOf_18 : decode cX9_partOf 18 = .ok (.iload_n 1, 1) := by decide +kernel
theorem dX9_partOf_19 : decode cX9_partOf 19 = .ok (.ifCond .ne 7, 3) := by decide +kernel
theorem dX9_partOf_22 : decode cX9_partOf 22 = .ok (.iconst 0, 1) := by decide +kernel
theorem dX9_partOf_23 : decode cX9_partOf 23 = .ok (.goto 26, 3) := by decide +kernel
theorem dX9_partOf_26 : decode cX9_partOf 26 = .ok (.aload_n 0, 1) := by decide +kernel
theorem dX9_partOf_27 : decode cX9_partOf 27 = .ok (.getfield 13, 3) := by decide +kernel
theorem dX9_partOf_30 : decode cX9_partOf 30 = .ok (.iload_n 1, 1) := by decide +kernel
theorem dX9_partOf_31 : decode cX9_partOf 31 = .ok (.iaload, 1) := by decide +kernel
theorem dX9_partOf_32 : decode cX9_partOf 32 = .ok (.goto 17, 3) := by decide +kernel
theorem dX9_partOf_35 : decode cX9_partOf 35 = .ok (.aload_n 0, 1) := by decide +kernel
theorem dX9_partOf_36 : decode cX9_partOf 36 = .ok (.getfield 16, 3) := by decide +kernel
theorem dX9_partOf_39 : decode cX9_partOf 39 = .ok (.iload_n 1, 1) := by decide +kernel
theorem dX9_partOf_40 : decode cX9_partOf 40 = .ok (.baload, 1) := by decide +kernel
theorem dX9_partOf_41 : decode cX9_partOf 41 = .ok (.ifCond .eq 7, 3) := by decide +kernel
theorem dX9_partOf_44 : decode cX9_partOf 44 = .ok (.iconst 1, 1) := by decide +kernel
theorem dX9_partOf_45 : decode cX9_partOf 45 = .ok (.goto 4, 3) := by decide +kernel
theorem dX9_partOf_48 : decode cX9_partOf 48 = .ok (.iconst 0, 1) := by decide +kernel
theorem dX9_partOf_49 : decode cX9_partOf 49 = .ok (.ireturn, 1) := by decide +kernel
theorem dX9_farFrom_0 : decode cX9_farFrom 0 = .ok (.iload_n 1, 1) := by decide +kernel
theorem dX9_farFrom_1 : decode cX9_farFrom 1 = .ok (.istore_n 3, 1) := by decide +kernel
theorem dX9_farFrom_2 : decode cX9_farFrom 2 = .ok (.iload_n 2, 1) := by decide +kernel
theorem dX9_farFrom_3 : decode cX9_farFrom 3 = .ok (.istore 4, 2) := by decide +kernel
theorem dX9_farFrom_5 : decode cX9_farFrom 5 = .ok (.iconst 0, 1) := by decide +kernel
theorem dX9_farFrom_6 : decode cX9_farFrom 6 = .ok (.istore 5, 2) := by decide +kernel
theorem dX9_farFrom_8 : decode cX9_farFrom 8 = .ok (.iload_n 3, 1) := by decide +kernel
theorem dX9_farFrom_9 : decode cX9_farFrom 9 = .ok (.iload 4, 2) := by decide +kernel
theorem dX9_farFrom_11 : decode cX9_farFrom 11 = .ok (.if_icmp .eq 54, 3) := by decide +kernel
theorem dX9_farFrom_14 : decode cX9_farFrom 14 = .ok (.iload_n 3, 1) := by decide +kernel
theorem dX9_farFrom_15 : decode cX9_farFrom 15 = .ok (.iload 4, 2) := by decide +kernel
theorem dX9_farFrom_17 : decode cX9_farFrom 17 = .ok (.if_icmp .le 24, 3) := by decide +kernel
theorem dX9_farFrom_20 : decode cX9_farFrom 20 = .ok (.iload 5, 2) := by decide +kernel
theorem dX9_farFrom_22 : decode cX9_farFrom 22 = .ok (.aload_n 0, 1) := by decide +kernel
theorem dX9_farFrom_23 : decode cX9_farFrom 23 = .ok (.getfield 13, 3) := by decide +kernel
theorem dX9_farFrom_26 : decode cX9_farFrom 26 = .ok (.iload_n 3, 1) := by decide +kernel
theorem dX9_farFrom_27 : decode cX9_farFrom 27 = .ok (.iaload, 1) := by decide +kernel
theorem dX9_farFrom_28 : decode cX9_farFrom 28 = .ok (.iadd, 1) := by decide +kernel
theorem dX9_farFrom_29 : decode cX9_farFrom 29 = .ok (.istore 5, 2) := by decide +kernel
theorem dX9_farFrom_31 : decode cX9_farFrom 31 = .ok (.aload_n 0, 1) := by decide +kernel
theorem dX9_farFrom_32 : decode cX9_farFrom 32 = .ok (.getfield 7, 3) := by decide +kernel
theorem dX9_farFrom_35 : decode cX9_farFrom 35 = .ok (.iload_n 3, 1) := by decide +kernel
theorem dX9_farFrom_36 : decode cX9_farFrom 36 = .ok (.iaload, 1) := by decide +kernel
theorem dX9_farFrom_37 : decode cX9_farFrom 37 = .ok (.istore_n 3, 1) := by decide +kernel
theorem dX9_farFrom_38 : decode cX9_farFrom 38 = .ok (.goto (-30), 3) := by decide +kernel
theorem dX9_farFrom_41 : decode cX9_farFrom 41 = .ok (.iload 5, 2) := by decide +kernel
theorem dX9_farFrom_43 : decode cX9_farFrom 43 = .ok (.aload_n 0, 1) := by decide +kernel
theorem dX9_farFrom_44 : decode cX9_farFrom 44 = .ok (.getfield 13, 3) := by decide +kernel
theorem dX9_farFrom_47 : decode cX9_farFrom 47 = .ok (.iload 4, 2) := by decide +kernel
theorem dX9_farFrom_49 : decode cX9_farFrom 49 = .ok (.iaload, 1) := by decide +kernel
theorem dX9_farFrom_50 : decode cX9_farFrom 50 = .ok (.iadd, 1) := by decide +kernel
theorem dX9_farFrom_51 : decode cX9_farFrom 51 = .ok (.istore 5, 2) := by decide +kernel
theorem dX9_farFrom_53 : decode cX9_farFrom 53 = .ok (.aload_n 0, 1) := by decide +kernel
theorem dX9_farFrom_54 : decode cX9_farFrom 54 = .ok (.getfield 7, 3) := by decide +kernel
theorem dX9_farFrom_57 : decode cX9_farFrom 57 = .ok (.iload 4, 2) := by decide +kernel
theorem dX9_farFrom_59 : decode cX9_farFrom 59 = .ok (.iaload, 1) := by decide +kernel
theorem dX9_farFrom_60 : decode cX9_farFrom 60 = .ok (.istore 4, 2) := by decide +kernel
theorem dX9_farFrom_62 : decode cX9_farFrom 62 = .ok (.goto (-54), 3) := by decide +kernel
theorem dX9_farFrom_65 : decode cX9_farFrom 65 = .ok (.iload 5, 2) := by decide +kernel
theorem dX9_farFrom_67 : decode cX9_farFrom 67 = .ok (.ireturn, 1) := by decide +kernel
set_option maxRecDepth 20000 in
theorem ggX9_far_X9_isVillage : GoodIn wsX9_far wsX9_isVillage := goodIn_r _ [5, 6, 7, 8, 4, 9, 21, 22, 23, 24, 25, 26, 27, 28, 29, 30, 31, 32, 33, 34, 35, 36, 37, 38, 39, 40, 41, 42] (by decide +kernel) (by decide +kernel)
set_option maxRecDepth 20000 in
theorem gX9_far_X9_isVillage : GoodIn wsX9_far (wsV RX9 49 RX9 yX9_isVillage wsX9_isVillage) := goodIn_app (goodIn_of _ (by decide +kernel)) ggX9_far_X9_isVillage
set_option maxRecDepth 20000 in
theorem ggX9_far_X9_farFrom : GoodIn wsX9_far wsX9_farFrom := goodIn_r _ [13, 14, 15, 21, 22, 23, 24, 25, 26, 27, 28, 29, 30, 31, 32, 33, 34, 35, 36, 37, 38, 39, 40, 41, 42] (by decide +kernel) (by decide +kernel)
set_option maxRecDepth 20000 in
theorem gX9_far_X9_farFrom : GoodIn wsX9_far (wsV RX9 99 RX9 yX9_farFrom wsX9_farFrom) := goodIn_app (goodIn_of _ (by decide +kernel)) ggX9_far_X9_farFrom
set_option maxRecDepth 20000 in
theorem ggX9_far_X9_refuse : GoodIn wsX9_far wsX9_refuse := goodIn_r _ [19, 20, 21, 22, 23, 24, 25, 26, 27, 28, 29, 30, 31, 32, 33, 34, 35, 36, 37, 38, 39, 40, 41, 42] (by decide +kernel) (by decide +kernel)
set_option maxRecDepth 20000 in
theorem gX9_far_X9_refuse : GoodIn wsX9_far (wsV RX9 55 RX9 yX9_refuse wsX9_refuse) := goodIn_app (goodIn_of _ (by decide +kernel)) ggX9_far_X9_refuse
theorem dX9_far_0 : decode cX9_far 0 = .ok (.aload_n 0, 1) := by decide +kernel
theorem dX9_far_1 : decode cX9_far 1 = .ok (.iload_n 1, 1) := by decide +kernel
theorem dX9_far_2 : decode cX9_far 2 = .ok (.invokevirtual 49, 3) := by decide +kernel
theorem dX9_far_5 : decode cX9_far 5 = .ok (.ifCond .eq 20, 3) := by decide +kernel
theorem dX9_far_8 : decode cX9_far 8 = .ok (.aload_n 0, 1) := by decide +kernel
theorem dX9_far_9 : decode cX9_far 9 = .ok (.iload_n 2, 1) := by decide +kernel
theorem dX9_far_10 : decode cX9_far 10 = .ok (.invokevirtual 49, 3) := by decide +kernel
theorem dX9_far_13 : decode cX9_far 13 = .ok (.ifCond .eq 12, 3) := by decide +kernel
theorem dX9_far_16 : decode cX9_far 16 = .ok (.aload_n 0, 1) := by decide +kernel
theorem dX9_far_17 : decode cX9_far 17 = .ok (.iload_n 1, 1) := by decide +kernel
theorem dX9_far_18 : decode cX9_far 18 = .ok (.iload_n 2, 1) := by decide +kernel
theorem dX9_far_19 : decode cX9_far 19 = .ok (.invokevirtual 99, 3) := by decide +kernel
theorem dX9_far_22 : decode cX9_far 22 = .ok (.goto 7, 3) := by decide +kernel
theorem dX9_far_25 : decode cX9_far 25 = .ok (.aload_n 0, 1) := by decide +kernel
theorem dX9_far_26 : decode cX9_far 26 = .ok (.invokevirtual 55, 3) := by decide +kernel
theorem dX9_far_29 : decode cX9_far 29 = .ok (.ireturn, 1) := by decide +kernel
theorem dX9_findWay_0 : decode cX9_findWay 0 = .ok (.iload_n 1, 1) := by decide +kernel
theorem dX9_findWay_1 : decode cX9_findWay 1 = .ok (.istore_n 3, 1) := by decide +kernel
theorem dX9_findWay_2 : decode cX9_findWay 2 = .ok (.iload_n 2, 1) := by decide +kernel
theorem dX9_findWay_3 : decode cX9_findWay 3 = .ok (.istore 4, 2) := by decide +kernel
theorem dX9_findWay_5 : decode cX9_findWay 5 = .ok (.iconst 0, 1) := by decide +kernel
theorem dX9_findWay_6 : decode cX9_findWay 6 = .ok (.istore 5, 2) := by decide +kernel
theorem dX9_findWay_8 : decode cX9_findWay 8 = .ok (.iconst 0, 1) := by decide +kernel
theorem dX9_findWay_9 : decode cX9_findWay 9 = .ok (.istore 6, 2) := by decide +kernel
theorem dX9_findWay_11 : decode cX9_findWay 11 = .ok (.iload_n 3, 1) := by decide +kernel
theorem dX9_findWay_12 : decode cX9_findWay 12 = .ok (.iload 4, 2) := by decide +kernel
theorem dX9_findWay_14 : decode cX9_findWay 14 = .ok (.if_icmp .eq 57, 3) := by decide +kernel
theorem dX9_findWay_17 : decode cX9_findWay 17 = .ok (.iload_n 3, 1) := by decide +kernel
theorem dX9_findWay_18 : decode cX9_findWay 18 = .ok (.iload 4, 2) := by decide +kernel
theorem dX9_findWay_20 : decode cX9_findWay 20 = .ok (.if_icmp .le 24, 3) := by decide +kernel
theorem dX9_findWay_23 : decode cX9_findWay 23 = .ok (.aload_n 0, 1) := by decide +kernel
theorem dX9_findWay_24 : decode cX9_findWay 24 = .ok (.getfield 26, 3) := by decide +kernel
theorem dX9_findWay_27 : decode cX9_findWay 27 = .ok (.iload 5, 2) := by decide +kernel
theorem dX9_findWay_29 : decode cX9_findWay 29 = .ok (.iload_n 3, 1) := by decide +kernel
theorem dX9_findWay_30 : decode cX9_findWay 30 = .ok (.iastore, 1) := by decide +kernel
theorem dX9_findWay_31 : decode cX9_findWay 31 = .ok (.aload_n 0, 1) := by decide +kernel
theorem dX9_findWay_32 : decode cX9_findWay 32 = .ok (.getfield 7, 3) := by decide +kernel
theorem dX9_findWay_35 : decode cX9_findWay 35 = .ok (.iload_n 3, 1) := by decide +kernel
theorem dX9_findWay_36 : decode cX9_findWay 36 = .ok (.iaload, 1) := by decide +kernel
theorem dX9_findWay_37 : decode cX9_findWay 37 = .ok (.istore_n 3, 1) := by decide +kernel
theorem dX9_findWay_38 : decode cX9_findWay 38 = .ok (.iinc 5 1, 3) := by decide +kernel
theorem dX9_findWay_41 : decode cX9_findWay 41 = .ok (.goto (-30), 3) := by decide +kernel
theorem dX9_findWay_44 : decode cX9_findWay 44 = .ok (.iinc 6 1, 3) := by decide +kernel
theorem dX9_findWay_47 : decode cX9_findWay 47 = .ok (.aload_n 0, 1) := by decide +kernel
theorem dX9_findWay_48 : decode cX9_findWay 48 = .ok (.getfield 26, 3) := by decide +kernel
theorem dX9_findWay_51 : decode cX9_findWay 51 = .ok (.bipush 60, 2) := by decide +kernel
theorem dX9_findWay_53 : decode cX9_findWay 53 = .ok (.iload 6, 2) := by decide +kernel
theorem dX9_findWay_55 : decode cX9_findWay 55 = .ok (.isub, 1) := by decide +kernel
theorem dX9_findWay_56 : decode cX9_findWay 56 = .ok (.iload 4, 2) := by decide +kernel
theorem dX9_findWay_58 : decode cX9_findWay 58 = .ok (.iastore, 1) := by decide +kernel
theorem dX9_findWay_59 : decode cX9_findWay 59 = .ok (.aload_n 0, 1) := by decide +kernel
theorem dX9_findWay_60 : decode cX9_findWay 60 = .ok (.getfield 7, 3) := by decide +kernel
theorem dX9_findWay_63 : decode cX9_findWay 63 = .ok (.iload 4, 2) := by decide +kernel
theorem dX9_findWay_65 : decode cX9_findWay 65 = .ok (.iaload, 1) := by decide +kernel
theorem dX9_findWay_66 : decode cX9_findWay 66 = .ok (.istore 4, 2) := by decide +kernel
theorem dX9_findWay_68 : decode cX9_findWay 68 = .ok (.goto (-57), 3) := by decide +kernel
theorem dX9_findWay_71 : decode cX9_findWay 71 = .ok (.aload_n 0, 1) := by decide +kernel
theorem dX9_findWay_72 : decode cX9_findWay 72 = .ok (.getfield 26, 3) := by decide +kernel
theorem dX9_findWay_75 : decode cX9_findWay 75 = .ok (.iload 5, 2) := by decide +kernel
theorem dX9_findWay_77 : decode cX9_findWay 77 = .ok (.iload_n 3, 1) := by decide +kernel
theorem dX9_findWay_78 : decode cX9_findWay 78 = .ok (.iastore, 1) := by decide +kernel
theorem dX9_findWay_79 : decode cX9_findWay 79 = .ok (.iconst 0, 1) := by decide +kernel
theorem dX9_findWay_80 : decode cX9_findWay 80 = .ok (.istore 7, 2) := by decide +kernel
theorem dX9_findWay_82 : decode cX9_findWay 82 = .ok (.iload 7, 2) := by decide +kernel
theorem dX9_findWay_84 : decode cX9_findWay 84 = .ok (.iload 6, 2) := by decide +kernel
theorem dX9_findWay_86 : decode cX9_findWay 86 = .ok (.if_icmp .ge 34, 3) := by decide +kernel
theorem dX9_findWay_89 : decode cX9_findWay 89 = .ok (.aload_n 0, 1) := by decide +kernel
theorem dX9_findWay_90 : decode cX9_findWay 90 = .ok (.getfield 26, 3) := by decide +kernel
theorem dX9_findWay_93 : decode cX9_findWay 93 = .ok (.iload 5, 2) := by decide +kernel
theorem dX9_findWay_95 : decode cX9_findWay 95 = .ok (.iconst 1, 1) := by decide +kernel
theorem dX9_findWay_96 : decode cX9_findWay 96 = .ok (.iadd, 1) := by decide +kernel
theorem dX9_findWay_97 : decode cX9_findWay 97 = .ok (.iload 7, 2) := by decide +kernel
theorem dX9_findWay_99 : decode cX9_findWay 99 = .ok (.iadd, 1) := by decide +kernel
theorem dX9_findWay_100 : decode cX9_findWay 100 = .ok (.aload_n 0, 1) := by decide +kernel
theorem dX9_findWay_101 : decode cX9_findWay 101 = .ok (.getfield 26, 3) := by decide +kernel
theorem dX9_findWay_104 : decode cX9_findWay 104 = .ok (.bipush 60, 2) := by decide +kernel
theorem dX9_findWay_106 : decode cX9_findWay 106 = .ok (.iload 6, 2) := by decide +kernel
theorem dX9_findWay_108 : decode cX9_findWay 108 = .ok (.isub, 1) := by decide +kernel
theorem dX9_findWay_109 : decode cX9_findWay 109 = .ok (.iload 7, 2) := by decide +kernel
theorem dX9_findWay_111 : decode cX9_findWay 111 = .ok (.iadd, 1) := by decide +kernel
theorem dX9_findWay_112 : decode cX9_findWay 112 = .ok (.iaload, 1) := by decide +kernel
theorem dX9_findWay_113 : decode cX9_findWay 113 = .ok (.iastore, 1) := by decide +kernel
theorem dX9_findWay_114 : decode cX9_findWay 114 = .ok (.iinc 7 1, 3) := by decide +kernel
theorem dX9_findWay_117 : decode cX9_findWay 117 = .ok (.goto (-35), 3) := by decide +kernel
theorem dX9_findWay_120 : decode cX9_findWay 120 = .ok (.aload_n 0, 1) := by decide +kernel
theorem dX9_findWay_121 : decode cX9_findWay 121 = .ok (.iload 5, 2) := by decide +kernel
theorem dX9_findWay_123 : decode cX9_findWay 123 = .ok (.iconst 1, 1) := by decide +kernel
theorem dX9_findWay_124 : decode cX9_findWay 124 = .ok (.iadd, 1) := by decide +kernel
theorem dX9_findWay_125 : decode cX9_findWay 125 = .ok (.iload 6, 2) := by decide +kernel
theorem dX9_findWay_127 : decode cX9_findWay 127 = .ok (.iadd, 1) := by decide +kernel
theorem dX9_findWay_128 : decode cX9_findWay 128 = .ok (.putfield 102, 3) := by decide +kernel
theorem dX9_findWay_131 : decode cX9_findWay 131 = .ok (.return_, 1) := by decide +kernel
set_option maxRecDepth 20000 in
theorem ggX9_way_X9_isVillage : GoodIn wsX9_way wsX9_isVillage := goodIn_r _ [7, 8, 9, 10, 6, 11, 22, 23, 24, 25, 26, 27, 28, 29, 30, 31, 32, 33, 34, 35, 36, 37, 38, 39, 40, 41, 42, 43] (by decide +kernel) (by decide +kernel)
set_option maxRecDepth 20000 in
theorem gX9_way_X9_isVillage : GoodIn wsX9_way (wsV RX9 49 RX9 yX9_isVillage wsX9_isVillage) := goodIn_app (goodIn_of _ (by decide +kernel)) ggX9_way_X9_isVillage
set_option maxRecDepth 20000 in
theorem ggX9_way_X9_refuse : GoodIn wsX9_way wsX9_refuse := goodIn_r _ [15, 16, 22, 23, 24, 25, 26, 27, 28, 29, 30, 31, 32, 33, 34, 35, 36, 37, 38, 39, 40, 41, 42, 43] (by decide +kernel) (by decide +kernel)
set_option maxRecDepth 20000 in
theorem gX9_way_X9_refuse : GoodIn wsX9_way (wsV RX9 55 RX9 yX9_refuse wsX9_refuse) := goodIn_app (goodIn_of _ (by decide +kernel)) ggX9_way_X9_refuse
set_option maxRecDepth 20000 in
theorem ggX9_way_X9_findWay : GoodIn wsX9_way wsX9_findWay := goodIn_r _ [20, 2, 21, 1, 22, 23, 24, 25, 26, 27, 28, 29, 30, 31, 32, 33, 34, 35, 36, 37, 38, 39, 40, 41, 42, 43] (by decide +kernel) (by decide +kernel)
set_option maxRecDepth 20000 in
theorem gX9_way_X9_findWay : GoodIn wsX9_way (wsV RX9 105 RX9 yX9_findWay wsX9_findWay) := goodIn_app (goodIn_of _ (by decide +kernel)) ggX9_way_X9_findWay
theorem dX9_way_0 : decode cX9_way 0 = .ok (.aload_n 0, 1) := by decide +kernel
theorem dX9_way_1 : decode cX9_way 1 = .ok (.iload_n 1, 1) := by decide +kernel
theorem dX9_way_2 : decode cX9_way 2 = .ok (.invokevirtual 49, 3) := by decide +kernel
theorem dX9_way_5 : decode cX9_way 5 = .ok (.ifCond .eq 16, 3) := by decide +kernel
theorem dX9_way_8 : decode cX9_way 8 = .ok (.aload_n 0, 1) := by decide +kernel
theorem dX9_way_9 : decode cX9_way 9 = .ok (.iload_n 2, 1) := by decide +kernel
theorem dX9_way_10 : decode cX9_way 10 = .ok (.invokevirtual 49, 3) := by decide +kernel
theorem dX9_way_13 : decode cX9_way 13 = .ok (.ifCond .eq 8, 3) := by decide +kernel
theorem dX9_way_16 : decode cX9_way 16 = .ok (.iload_n 3, 1) := by decide +kernel
theorem dX9_way_17 : decode cX9_way 17 = .ok (.iconst (-1), 1) := by decide +kernel
theorem dX9_way_18 : decode cX9_way 18 = .ok (.if_icmp .ge 11, 3) := by decide +kernel
theorem dX9_way_21 : decode cX9_way 21 = .ok (.aload_n 0, 1) := by decide +kernel
theorem dX9_way_22 : decode cX9_way 22 = .ok (.invokevirtual 55, 3) := by decide +kernel
theorem dX9_way_25 : decode cX9_way 25 = .ok (.pop, 1) := by decide +kernel
theorem dX9_way_26 : decode cX9_way 26 = .ok (.bipush (-10), 2) := by decide +kernel
theorem dX9_way_28 : decode cX9_way 28 = .ok (.ireturn, 1) := by decide +kernel
theorem dX9_way_29 : decode cX9_way 29 = .ok (.aload_n 0, 1) := by decide +kernel
theorem dX9_way_30 : decode cX9_way 30 = .ok (.iload_n 1, 1) := by decide +kernel
theorem dX9_way_31 : decode cX9_way 31 = .ok (.iload_n 2, 1) := by decide +kernel
theorem dX9_way_32 : decode cX9_way 32 = .ok (.invokevirtual 105, 3) := by decide +kernel
theorem dX9_way_35 : decode cX9_way 35 = .ok (.iload_n 3, 1) := by decide +kernel
theorem dX9_way_36 : decode cX9_way 36 = .ok (.iconst (-1), 1) := by decide +kernel
theorem dX9_way_37 : decode cX9_way 37 = .ok (.if_icmp .ne 10, 3) := by decide +kernel
theorem dX9_way_40 : decode cX9_way 40 = .ok (.aload_n 0, 1) := by decide +kernel
theorem dX9_way_41 : decode cX9_way 41 = .ok (.getfield 102, 3) := by decide +kernel
theorem dX9_way_44 : decode cX9_way 44 = .ok (.goto 22, 3) := by decide +kernel
theorem dX9_way_47 : decode cX9_way 47 = .ok (.iload_n 3, 1) := by decide +kernel
theorem dX9_way_48 : decode cX9_way 48 = .ok (.aload_n 0, 1) := by decide +kernel
theorem dX9_way_49 : decode cX9_way 49 = .ok (.getfield 102, 3) := by decide +kernel
theorem dX9_way_52 : decode cX9_way 52 = .ok (.if_icmp .ge 12, 3) := by decide +kernel
theorem dX9_way_55 : decode cX9_way 55 = .ok (.aload_n 0, 1) := by decide +kernel
theorem dX9_way_56 : decode cX9_way 56 = .ok (.getfield 26, 3) := by decide +kernel
theorem dX9_way_59 : decode cX9_way 59 = .ok (.iload_n 3, 1) := by decide +kernel
theorem dX9_way_60 : decode cX9_way 60 = .ok (.iaload, 1) := by decide +kernel
theorem dX9_way_61 : decode cX9_way 61 = .ok (.goto 5, 3) := by decide +kernel
theorem dX9_way_64 : decode cX9_way 64 = .ok (.bipush (-5), 2) := by decide +kernel
theorem dX9_way_66 : decode cX9_way 66 = .ok (.ireturn, 1) := by decide +kernel
set_option maxRecDepth 20000 in
theorem ggX9_farthest_X9_farFrom : GoodIn wsX9_farthest wsX9_farFrom := goodIn_r _ [6, 7, 8, 9, 10, 11, 12, 13, 14, 15, 16, 17, 18, 19, 20, 21, 22, 23, 24, 25, 26, 27, 28, 29, 30] (by decide +kernel) (by decide +kernel)
set_option maxRecDepth 20000 in
theorem gX9_farthest_X9_farFrom : GoodIn wsX9_farthest (wsV RX9 99 RX9 yX9_farFrom wsX9_farFrom) := goodIn_app (goodIn_of _ (by decide +kernel)) ggX9_farthest_X9_farFrom
theorem dX9_farthest_0 : decode cX9_farthest 0 = .ok (.iconst 0, 1) := by decide +kernel
theorem dX9_farthest_1 : decode cX9_farthest 1 = .ok (.istore_n 2, 1) := by decide +kernel
theorem dX9_farthest_2 : decode cX9_farthest 2 = .ok (.iconst 0, 1) := by decide +kernel
theorem dX9_farthest_3 : decode cX9_farthest 3 = .ok (.istore_n 3, 1) := by decide +kernel
theorem dX9_farthest_4 : decode cX9_farthest 4 = .ok (.iload_n 3, 1) := by decide +kernel
theorem dX9_farthest_5 : decode cX9_farthest 5 = .ok (.aload_n 0, 1) := by decide +kernel
theorem dX9_farthest_6 : decode cX9_farthest 6 = .ok (.getfield 35, 3) := by decide +kernel
theorem dX9_farthest_9 : decode cX9_farthest 9 = .ok (.if_icmp .ge 30, 3) := by decide +kernel
theorem dX9_farthest_12 : decode cX9_farthest 12 = .ok (.aload_n 0, 1) := by decide +kernel
theorem dX9_farthest_13 : decode cX9_farthest 13 = .ok (.iload_n 1, 1) := by decide +kernel
theorem dX9_farthest_14 : decode cX9_farthest 14 = .ok (.iload_n 3, 1) := by decide +kernel
theorem dX9_farthest_15 : decode cX9_farthest 15 = .ok (.invokevirtual 99, 3) := by decide +kernel
theorem dX9_farthest_18 : decode cX9_farthest 18 = .ok (.istore 4, 2) := by decide +kernel
theorem dX9_farthest_20 : decode cX9_farthest 20 = .ok (.iload 4, 2) := by decide +kernel
theorem dX9_farthest_22 : decode cX9_farthest 22 = .ok (.iload_n 2, 1) := by decide +kernel
theorem dX9_farthest_23 : decode cX9_farthest 23 = .ok (.if_icmp .le 8, 3) := by decide +kernel
theorem dX9_farthest_26 : decode cX9_farthest 26 = .ok (.iload 4, 2) := by decide +kernel
theorem dX9_farthest_28 : decode cX9_farthest 28 = .ok (.goto 4, 3) := by decide +kernel
theorem dX9_farthest_31 : decode cX9_farthest 31 = .ok (.iload_n 2, 1) := by decide +kernel
theorem dX9_farthest_32 : decode cX9_farthest 32 = .ok (.istore_n 2, 1) := by decide +kernel
theorem dX9_farthest_33 : decode cX9_farthest 33 = .ok (.iinc 3 1, 3) := by decide +kernel
theorem dX9_farthest_36 : decode cX9_farthest 36 = .ok (.goto (-32), 3) := by decide +kernel
theorem dX9_farthest_39 : decode cX9_farthest 39 = .ok (.iload_n 2, 1) := by decide +kernel
theorem dX9_farthest_40 : decode cX9_farthest 40 = .ok (.ireturn, 1) := by decide +kernel
set_option maxRecDepth 20000 in
theorem ggX9_longest_X9_in : GoodIn wsX9_longest wsX9_in := goodIn_r _ [6] (by decide +kernel) (by decide +kernel)
set_option maxRecDepth 20000 in
theorem gX9_longest_X9_in : GoodIn wsX9_longest (va_wsS RX9 39 yX9_in wsX9_in) := goodIn_app (goodIn_of _ (by decide +kernel)) ggX9_longest_X9_in
set_option maxRecDepth 20000 in
theorem ggX9_longest_X9_refuse : GoodIn wsX9_longest wsX9_refuse := goodIn_r _ [10, 11, 22, 23, 24, 25, 26, 27, 28, 29, 30, 31, 32, 33, 34, 35, 36, 37, 38, 39, 40, 41, 42, 43] (by decide +kernel) (by decide +kernel)
set_option maxRecDepth 20000 in
theorem gX9_longest_X9_refuse : GoodIn wsX9_longest (wsV RX9 55 RX9 yX9_refuse wsX9_refuse) := goodIn_app (goodIn_of _ (by decide +kernel)) ggX9_longest_X9_refuse
set_option maxRecDepth 20000 in
theorem ggX9_longest_X9_farthest : GoodIn wsX9_longest wsX9_farthest := goodIn_r _ [15, 2, 16, 17, 18, 5, 19, 20, 21, 22, 23, 24, 25, 26, 27, 28, 29, 30, 31, 32, 33, 34, 35, 36, 37, 38, 39, 40, 41, 42, 43] (by decide +kernel) (by decide +kernel)
set_option maxRecDepth 20000 in
theorem gX9_longest_X9_farthest : GoodIn wsX9_longest (wsV RX9 111 RX9 yX9_farthest wsX9_farthest) := goodIn_app (goodIn_of _ (by decide +kernel)) ggX9_longest_X9_farthest
set_option maxRecDepth 20000 in
theorem ggX9_longest_X9_farFrom : GoodIn wsX9_longest wsX9_farFrom := goodIn_r _ [19, 20, 21, 22, 23, 24, 25, 26, 27, 28, 29, 30, 31, 32, 33, 34, 35, 36, 37, 38, 39, 40, 41, 42, 43] (by decide +kernel) (by decide +kernel)
set_option maxRecDepth 20000 in
theorem gX9_longest_X9_farFrom : GoodIn wsX9_longest (wsV RX9 99 RX9 yX9_farFrom wsX9_farFrom) := goodIn_app (goodIn_of _ (by decide +kernel)) ggX9_longest_X9_farFrom
theorem dX9_longest_0 : decode cX9_longest 0 = .ok (.iload_n 1, 1) := by decide +kernel
theorem dX9_longest_1 : decode cX9_longest 1 = .ok (.i2l, 1) := by decide +kernel
theorem dX9_longest_2 : decode cX9_longest 2 = .ok (.lconst 0, 1) := by decide +kernel
theorem dX9_longest_3 : decode cX9_longest 3 = .ok (.ldc2_w 109, 3) := by decide +kernel
theorem dX9_longest_6 : decode cX9_longest 6 = .ok (.invokestatic 39, 3) := by decide +kernel
theorem dX9_longest_9 : decode cX9_longest 9 = .ok (.ifCond .ne 8, 3) := by decide +kernel
theorem dX9_longest_12 : decode cX9_longest 12 = .ok (.aload_n 0, 1) := by decide +kernel
theorem dX9_longest_13 : decode cX9_longest 13 = .ok (.invokevirtual 55, 3) := by decide +kernel
theorem dX9_longest_16 : decode cX9_longest 16 = .ok (.ireturn, 1) := by decide +kernel
theorem dX9_longest_17 : decode cX9_longest 17 = .ok (.iconst 0, 1) := by decide +kernel
theorem dX9_longest_18 : decode cX9_longest 18 = .ok (.istore_n 2, 1) := by decide +kernel
theorem dX9_longest_19 : decode cX9_longest 19 = .ok (.iconst 0, 1) := by decide +kernel
theorem dX9_longest_20 : decode cX9_longest 20 = .ok (.istore_n 3, 1) := by decide +kernel
theorem dX9_longest_21 : decode cX9_longest 21 = .ok (.iconst 0, 1) := by decide +kernel
theorem dX9_longest_22 : decode cX9_longest 22 = .ok (.istore 4, 2) := by decide +kernel
theorem dX9_longest_24 : decode cX9_longest 24 = .ok (.iload 4, 2) := by decide +kernel
theorem dX9_longest_26 : decode cX9_longest 26 = .ok (.aload_n 0, 1) := by decide +kernel
theorem dX9_longest_27 : decode cX9_longest 27 = .ok (.getfield 35, 3) := by decide +kernel
theorem dX9_longest_30 : decode cX9_longest 30 = .ok (.if_icmp .ge 43, 3) := by decide +kernel
theorem dX9_longest_33 : decode cX9_longest 33 = .ok (.aload_n 0, 1) := by decide +kernel
theorem dX9_longest_34 : decode cX9_longest 34 = .ok (.iload 4, 2) := by decide +kernel
theorem dX9_longest_36 : decode cX9_longest 36 = .ok (.invokevirtual 111, 3) := by decide +kernel
theorem dX9_longest_39 : decode cX9_longest 39 = .ok (.istore 5, 2) := by decide +kernel
theorem dX9_longest_41 : decode cX9_longest 41 = .ok (.iload 5, 2) := by decide +kernel
theorem dX9_longest_43 : decode cX9_longest 43 = .ok (.iload_n 2, 1) := by decide +kernel
theorem dX9_longest_44 : decode cX9_longest 44 = .ok (.if_icmp .le 8, 3) := by decide +kernel
theorem dX9_longest_47 : decode cX9_longest 47 = .ok (.iload 4, 2) := by decide +kernel
theorem dX9_longest_49 : decode cX9_longest 49 = .ok (.goto 4, 3) := by decide +kernel
theorem dX9_longest_52 : decode cX9_longest 52 = .ok (.iload_n 3, 1) := by decide +kernel
theorem dX9_longest_53 : decode cX9_longest 53 = .ok (.istore_n 3, 1) := by decide +kernel
theorem dX9_longest_54 : decode cX9_longest 54 = .ok (.iload 5, 2) := by decide +kernel
theorem dX9_longest_56 : decode cX9_longest 56 = .ok (.iload_n 2, 1) := by decide +kernel
theorem dX9_longest_57 : decode cX9_longest 57 = .ok (.if_icmp .le 8, 3) := by decide +kernel
theorem dX9_longest_60 : decode cX9_longest 60 = .ok (.iload 5, 2) := by decide +kernel
theorem dX9_longest_62 : decode cX9_longest 62 = .ok (.goto 4, 3) := by decide +kernel
theorem dX9_longest_65 : decode cX9_longest 65 = .ok (.iload_n 2, 1) := by decide +kernel
theorem dX9_longest_66 : decode cX9_longest 66 = .ok (.istore_n 2, 1) := by decide +kernel
theorem dX9_longest_67 : decode cX9_longest 67 = .ok (.iinc 4 1, 3) := by decide +kernel
theorem dX9_longest_70 : decode cX9_longest 70 = .ok (.goto (-46), 3) := by decide +kernel
theorem dX9_longest_73 : decode cX9_longest 73 = .ok (.iconst 0, 1) := by decide +kernel
theorem dX9_longest_74 : decode cX9_longest 74 = .ok (.istore 4, 2) := by decide +kernel
theorem dX9_longest_76 : decode cX9_longest 76 = .ok (.aload_n 0, 1) := by decide +kernel
theorem dX9_longest_77 : decode cX9_longest 77 = .ok (.iload_n 3, 1) := by decide +kernel
theorem dX9_longest_78 : decode cX9_longest 78 = .ok (.iload 4, 2) := by decide +kernel
theorem dX9_longest_80 : decode cX9_longest 80 = .ok (.invokevirtual 99, 3) := by decide +kernel
theorem dX9_longest_83 : decode cX9_longest 83 = .ok (.iload_n 2, 1) := by decide +kernel
theorem dX9_longest_84 : decode cX9_longest 84 = .ok (.if_icmp .eq 9, 3) := by decide +kernel
theorem dX9_longest_87 : decode cX9_longest 87 = .ok (.iinc 4 1, 3) := by decide +kernel
theorem dX9_longest_90 : decode cX9_longest 90 = .ok (.goto (-14), 3) := by decide +kernel
theorem dX9_longest_93 : decode cX9_longest 93 = .ok (.iload_n 1, 1) := by decide +kernel
theorem dX9_longest_94 : decode cX9_longest 94 = .ok (.ifCond .ne 7, 3) := by decide +kernel
theorem dX9_longest_97 : decode cX9_longest 97 = .ok (.iload_n 2, 1) := by decide +kernel
theorem dX9_longest_98 : decode cX9_longest 98 = .ok (.goto 14, 3) := by decide +kernel
theorem dX9_longest_101 : decode cX9_longest 101 = .ok (.iload_n 1, 1) := by decide +kernel
theorem dX9_longest_102 : decode cX9_longest 102 = .ok (.iconst 1, 1) := by decide +kernel
theorem dX9_longest_103 : decode cX9_longest 103 = .ok (.if_icmp .ne 7, 3) := by decide +kernel
theorem dX9_longest_106 : decode cX9_longest 106 = .ok (.iload_n 3, 1) := by decide +kernel
theorem dX9_longest_107 : decode cX9_longest 107 = .ok (.goto 5, 3) := by decide +kernel
theorem dX9_longest_110 : decode cX9_longest 110 = .ok (.iload 4, 2) := by decide +kernel
theorem dX9_longest_112 : decode cX9_longest 112 = .ok (.ireturn, 1) := by decide +kernel
set_option maxRecDepth 20000 in
theorem ggX9_sumFrom_X9_farFrom : GoodIn wsX9_sumFrom wsX9_farFrom := goodIn_r _ [6, 7, 8, 9, 10, 11, 12, 13, 14, 15, 16, 17, 18, 19, 20, 21, 22, 23, 24, 25, 26, 27, 28, 29, 30] (by decide +kernel) (by decide +kernel)
set_option maxRecDepth 20000 in
theorem gX9_sumFrom_X9_farFrom : GoodIn wsX9_sumFrom (wsV RX9 99 RX9 yX9_farFrom wsX9_farFrom) := goodIn_app (goodIn_of _ (by decide +kernel)) ggX9_sumFrom_X9_farFrom
theorem dX9_sumFrom_0 : decode cX9_sumFrom 0 = .ok (.iconst 0, 1) := by decide +kernel
theorem dX9_sumFrom_1 : decode cX9_sumFrom 1 = .ok (.istore_n 2, 1) := by decide +kernel
theorem dX9_sumFrom_2 : decode cX9_sumFrom 2 = .ok (.iconst 0, 1) := by decide +kernel
theorem dX9_sumFrom_3 : decode cX9_sumFrom 3 = .ok (.istore_n 3, 1) := by decide +kernel
theorem dX9_sumFrom_4 : decode cX9_sumFrom 4 = .ok (.iload_n 3, 1) := by decide +kernel
theorem dX9_sumFrom_5 : decode cX9_sumFrom 5 = .ok (.aload_n 0, 1) := by decide +kernel
theorem dX9_sumFrom_6 : decode cX9_sumFrom 6 = .ok (.getfield 35, 3) := by decide +kernel
theorem dX9_sumFrom_9 : decode cX9_sumFrom 9 = .ok (.if_icmp .ge 18, 3) := by decide +kernel
theorem dX9_sumFrom_12 : decode cX9_sumFrom 12 = .ok (.iload_n 2, 1) := by decide +kernel
theorem dX9_sumFrom_13 : decode cX9_sumFrom 13 = .ok (.aload_n 0, 1) := by decide +kernel
theorem dX9_sumFrom_14 : decode cX9_sumFrom 14 = .ok (.iload_n 3, 1) := by decide +kernel
theorem dX9_sumFrom_15 : decode cX9_sumFrom 15 = .ok (.iload_n 1, 1) := by decide +kernel
theorem dX9_sumFrom_16 : decode cX9_sumFrom 16 = .ok (.invokevirtual 99, 3) := by decide +kernel
theorem dX9_sumFrom_19 : decode cX9_sumFrom 19 = .ok (.iadd, 1) := by decide +kernel
theorem dX9_sumFrom_20 : decode cX9_sumFrom 20 = .ok (.istore_n 2, 1) := by decide +kernel
theorem dX9_sumFrom_21 : decode cX9_sumFrom 21 = .ok (.iinc 3 1, 3) := by decide +kernel
theorem dX9_sumFrom_24 : decode cX9_sumFrom 24 = .ok (.goto (-20), 3) := by decide +kernel
theorem dX9_sumFrom_27 : decode cX9_sumFrom 27 = .ok (.iload_n 2, 1) := by decide +kernel
theorem dX9_sumFrom_28 : decode cX9_sumFrom 28 = .ok (.ireturn, 1) := by decide +kernel
theorem dX9_restOf_0 : decode cX9_restOf 0 = .ok (.aload_n 0, 1) := by decide +kernel
theorem dX9_restOf_1 : decode cX9_restOf 1 = .ok (.getfield 35, 3) := by decide +kernel
theorem dX9_restOf_4 : decode cX9_restOf 4 = .ok (.iconst 1, 1) := by decide +kernel
theorem dX9_restOf_5 : decode cX9_restOf 5 = .ok (.isub, 1) := by decide +kernel
theorem dX9_restOf_6 : decode cX9_restOf 6 = .ok (.istore_n 2, 1) := by decide +kernel
theorem dX9_restOf_7 : decode cX9_restOf 7 = .ok (.iload_n 2, 1) := by decide +kernel
theorem dX9_restOf_8 : decode cX9_restOf 8 = .ok (.ifCond .lt 63, 3) := by decide +kernel
theorem dX9_restOf_11 : decode cX9_restOf 11 = .ok (.aload_n 0, 1) := by decide +kernel
theorem dX9_restOf_12 : decode cX9_restOf 12 = .ok (.getfield 29, 3) := by decide +kernel
theorem dX9_restOf_15 : decode cX9_restOf 15 = .ok (.iload_n 2, 1) := by decide +kernel
theorem dX9_restOf_16 : decode cX9_restOf 16 = .ok (.iconst 1, 1) := by decide +kernel
theorem dX9_restOf_17 : decode cX9_restOf 17 = .ok (.iastore, 1) := by decide +kernel
theorem dX9_restOf_18 : decode cX9_restOf 18 = .ok (.iload_n 2, 1) := by decide +kernel
theorem dX9_restOf_19 : decode cX9_restOf 19 = .ok (.iconst 1, 1) := by decide +kernel
theorem dX9_restOf_20 : decode cX9_restOf 20 = .ok (.iadd, 1) := by decide +kernel
theorem dX9_restOf_21 : decode cX9_restOf 21 = .ok (.istore_n 3, 1) := by decide +kernel
theorem dX9_restOf_22 : decode cX9_restOf 22 = .ok (.iload_n 3, 1) := by decide +kernel
theorem dX9_restOf_23 : decode cX9_restOf 23 = .ok (.aload_n 0, 1) := by decide +kernel
theorem dX9_restOf_24 : decode cX9_restOf 24 = .ok (.getfield 35, 3) := by decide +kernel
theorem dX9_restOf_27 : decode cX9_restOf 27 = .ok (.if_icmp .ge 38, 3) := by decide +kernel
theorem dX9_restOf_30 : decode cX9_restOf 30 = .ok (.aload_n 0, 1) := by decide +kernel
theorem dX9_restOf_31 : decode cX9_restOf 31 = .ok (.getfield 29, 3) := by decide +kernel
theorem dX9_restOf_34 : decode cX9_restOf 34 = .ok (.iload_n 2, 1) := by decide +kernel
theorem dX9_restOf_35 : decode cX9_restOf 35 = .ok (.dup2, 1) := by decide +kernel
theorem dX9_restOf_36 : decode cX9_restOf 36 = .ok (.iaload, 1) := by decide +kernel
theorem dX9_restOf_37 : decode cX9_restOf 37 = .ok (.aload_n 0, 1) := by decide +kernel
theorem dX9_restOf_38 : decode cX9_restOf 38 = .ok (.getfield 7, 3) := by decide +kernel
theorem dX9_restOf_41 : decode cX9_restOf 41 = .ok (.iload_n 3, 1) := by decide +kernel
theorem dX9_restOf_42 : decode cX9_restOf 42 = .ok (.iaload, 1) := by decide +kernel
theorem dX9_restOf_43 : decode cX9_restOf 43 = .ok (.iload_n 2, 1) := by decide +kernel
theorem dX9_restOf_44 : decode cX9_restOf 44 = .ok (.if_icmp .ne 12, 3) := by decide +kernel
theorem dX9_restOf_47 : decode cX9_restOf 47 = .ok (.aload_n 0, 1) := by decide +kernel
theorem dX9_restOf_48 : decode cX9_restOf 48 = .ok (.getfield 29, 3) := by decide +kernel
theorem dX9_restOf_51 : decode cX9_restOf 51 = .ok (.iload_n 3, 1) := by decide +kernel
theorem dX9_restOf_52 : decode cX9_restOf 52 = .ok (.iaload, 1) := by decide +kernel
theorem dX9_restOf_53 : decode cX9_restOf 53 = .ok (.goto 4, 3) := by decide +kernel
theorem dX9_restOf_56 : decode cX9_restOf 56 = .ok (.iconst 0, 1) := by decide +kernel
theorem dX9_restOf_57 : decode cX9_restOf 57 = .ok (.iadd, 1) := by decide +kernel
theorem dX9_restOf_58 : decode cX9_restOf 58 = .ok (.iastore, 1) := by decide +kernel
theorem dX9_restOf_59 : decode cX9_restOf 59 = .ok (.iinc 3 1, 3) := by decide +kernel
theorem dX9_restOf_62 : decode cX9_restOf 62 = .ok (.goto (-40), 3) := by decide +kernel
theorem dX9_restOf_65 : decode cX9_restOf 65 = .ok (.iinc 2 (-1), 3) := by decide +kernel
theorem dX9_restOf_68 : decode cX9_restOf 68 = .ok (.goto (-61), 3) := by decide +kernel
theorem dX9_restOf_71 : decode cX9_restOf 71 = .ok (.aload_n 0, 1) := by decide +kernel
theorem dX9_restOf_72 : decode cX9_restOf 72 = .ok (.getfield 35, 3) := by decide +kernel
theorem dX9_restOf_75 : decode cX9_restOf 75 = .ok (.aload_n 0, 1) := by decide +kernel
theorem dX9_restOf_76 : decode cX9_restOf 76 = .ok (.getfield 29, 3) := by decide +kernel
theorem dX9_restOf_79 : decode cX9_restOf 79 = .ok (.iload_n 1, 1) := by decide +kernel
theorem dX9_restOf_80 : decode cX9_restOf 80 = .ok (.iaload, 1) := by decide +kernel
theorem dX9_restOf_81 : decode cX9_restOf 81 = .ok (.isub, 1) := by decide +kernel
theorem dX9_restOf_82 : decode cX9_restOf 82 = .ok (.istore_n 2, 1) := by decide +kernel
theorem dX9_restOf_83 : decode cX9_restOf 83 = .ok (.iload_n 1, 1) := by decide +kernel
theorem dX9_restOf_84 : decode cX9_restOf 84 = .ok (.iconst 1, 1) := by decide +kernel
theorem dX9_restOf_85 : decode cX9_restOf 85 = .ok (.iadd, 1) := by decide +kernel
theorem dX9_restOf_86 : decode cX9_restOf 86 = .ok (.istore_n 3, 1) := by decide +kernel
theorem dX9_restOf_87 : decode cX9_restOf 87 = .ok (.iload_n 3, 1) := by decide +kernel
theorem dX9_restOf_88 : decode cX9_restOf 88 = .ok (.aload_n 0, 1) := by decide +kernel
theorem dX9_restOf_89 : decode cX9_restOf 89 = .ok (.getfield 35, 3) := by decide +kernel
theorem dX9_restOf_92 : decode cX9_restOf 92 = .ok (.if_icmp .ge 40, 3) := by decide +kernel
theorem dX9_restOf_95 : decode cX9_restOf 95 = .ok (.aload_n 0, 1) := by decide +kernel
theorem dX9_restOf_96 : decode cX9_restOf 96 = .ok (.getfield 7, 3) := by decide +kernel
theorem dX9_restOf_99 : decode cX9_restOf 99 = .ok (.iload_n 3, 1) := by decide +kernel
theorem dX9_restOf_100 : decode cX9_restOf 100 = .ok (.iaload, 1) := by decide +kernel
theorem dX9_restOf_101 : decode cX9_restOf 101 = .ok (.iload_n 1, 1) := by decide +kernel
theorem dX9_restOf_102 : decode cX9_restOf 102 = .ok (.if_icmp .ne 22, 3) := by decide +kernel
theorem dX9_restOf_105 : decode cX9_restOf 105 = .ok (.aload_n 0, 1) := by decide +kernel
theorem dX9_restOf_106 : decode cX9_restOf 106 = .ok (.getfield 29, 3) := by decide +kernel
theorem dX9_restOf_109 : decode cX9_restOf 109 = .ok (.iload_n 3, 1) := by decide +kernel
theorem dX9_restOf_110 : decode cX9_restOf 110 = .ok (.iaload, 1) := by decide +kernel
theorem dX9_restOf_111 : decode cX9_restOf 111 = .ok (.iload_n 2, 1) := by decide +kernel
theorem dX9_restOf_112 : decode cX9_restOf 112 = .ok (.if_icmp .le 12, 3) := by decide +kernel
theorem dX9_restOf_115 : decode cX9_restOf 115 = .ok (.aload_n 0, 1) := by decide +kernel
theorem dX9_restOf_116 : decode cX9_restOf 116 = .ok (.getfield 29, 3) := by decide +kernel
theorem dX9_restOf_119 : decode cX9_restOf 119 = .ok (.iload_n 3, 1) := by decide +kernel
theorem dX9_restOf_120 : decode cX9_restOf 120 = .ok (.iaload, 1) := by decide +kernel
theorem dX9_restOf_121 : decode cX9_restOf 121 = .ok (.goto 4, 3) := by decide +kernel
theorem dX9_restOf_124 : decode cX9_restOf 124 = .ok (.iload_n 2, 1) := by decide +kernel
theorem dX9_restOf_125 : decode cX9_restOf 125 = .ok (.istore_n 2, 1) := by decide +kernel
theorem dX9_restOf_126 : decode cX9_restOf 126 = .ok (.iinc 3 1, 3) := by decide +kernel
theorem dX9_restOf_129 : decode cX9_restOf 129 = .ok (.goto (-42), 3) := by decide +kernel
theorem dX9_restOf_132 : decode cX9_restOf 132 = .ok (.iload_n 2, 1) := by decide +kernel
theorem dX9_restOf_133 : decode cX9_restOf 133 = .ok (.ireturn, 1) := by decide +kernel
set_option maxRecDepth 20000 in
theorem ggX9_middle_X9_in : GoodIn wsX9_middle wsX9_in := goodIn_r _ [6] (by decide +kernel) (by decide +kernel)
set_option maxRecDepth 20000 in
theorem gX9_middle_X9_in : GoodIn wsX9_middle (va_wsS RX9 39 yX9_in wsX9_in) := goodIn_app (goodIn_of _ (by decide +kernel)) ggX9_middle_X9_in
set_option maxRecDepth 20000 in
theorem ggX9_middle_X9_refuse : GoodIn wsX9_middle wsX9_refuse := goodIn_r _ [10, 11, 31, 32, 33, 34, 35, 36, 37, 38, 39, 40, 41, 42, 43, 44, 45, 46, 47, 48, 49, 50, 51, 52] (by decide +kernel) (by decide +kernel)
set_option maxRecDepth 20000 in
theorem gX9_middle_X9_refuse : GoodIn wsX9_middle (wsV RX9 55 RX9 yX9_refuse wsX9_refuse) := goodIn_app (goodIn_of _ (by decide +kernel)) ggX9_middle_X9_refuse
set_option maxRecDepth 20000 in
theorem ggX9_middle_X9_farthest : GoodIn wsX9_middle wsX9_farthest := goodIn_r _ [15, 2, 16, 17, 18, 5, 19, 20, 21, 31, 32, 33, 34, 35, 36, 37, 38, 39, 40, 41, 42, 43, 44, 45, 46, 47, 48, 49, 50, 51, 52] (by decide +kernel) (by decide +kernel)
set_option maxRecDepth 20000 in
theorem gX9_middle_X9_farthest : GoodIn wsX9_middle (wsV RX9 111 RX9 yX9_farthest wsX9_farthest) := goodIn_app (goodIn_of _ (by decide +kernel)) ggX9_middle_X9_farthest
set_option maxRecDepth 20000 in
theorem ggX9_middle_X9_sumFrom : GoodIn wsX9_middle wsX9_sumFrom := goodIn_r _ [25, 2, 16, 17, 18, 5, 19, 20, 21, 31, 32, 33, 34, 35, 36, 37, 38, 39, 40, 41, 42, 43, 44, 45, 46, 47, 48, 49, 50, 51, 52] (by decide +kernel) (by decide +kernel)
set_option maxRecDepth 20000 in
theorem gX9_middle_X9_sumFrom : GoodIn wsX9_middle (wsV RX9 115 RX9 yX9_sumFrom wsX9_sumFrom) := goodIn_app (goodIn_of _ (by decide +kernel)) ggX9_middle_X9_sumFrom
set_option maxRecDepth 20000 in
theorem ggX9_middle_X9_restOf : GoodIn wsX9_middle wsX9_restOf := goodIn_r _ [29, 2, 30, 21, 31, 32, 33, 34, 35, 36, 37, 38, 39, 40, 41, 42, 43, 44, 45, 46, 47, 48, 49, 50, 51, 52] (by decide +kernel) (by decide +kernel)
set_option maxRecDepth 20000 in
theorem gX9_middle_X9_restOf : GoodIn wsX9_middle (wsV RX9 118 RX9 yX9_restOf wsX9_restOf) := goodIn_app (goodIn_of _ (by decide +kernel)) ggX9_middle_X9_restOf
theorem dX9_middle_0 : decode cX9_middle 0 = .ok (.iload_n 1, 1) := by decide +kernel
theorem dX9_middle_1 : decode cX9_middle 1 = .ok (.i2l, 1) := by decide +kernel
theorem dX9_middle_2 : decode cX9_middle 2 = .ok (.lconst 0, 1) := by decide +kernel
theorem dX9_middle_3 : decode cX9_middle 3 = .ok (.ldc2_w 109, 3) := by decide +kernel
theorem dX9_middle_6 : decode cX9_middle 6 = .ok (.invokestatic 39, 3) := by decide +kernel
theorem dX9_middle_9 : decode cX9_middle 9 = .ok (.ifCond .ne 8, 3) := by decide +kernel
theorem dX9_middle_12 : decode cX9_middle 12 = .ok (.aload_n 0, 1) := by decide +kernel
theorem dX9_middle_13 : decode cX9_middle 13 = .ok (.invokevirtual 55, 3) := by decide +kernel
theorem dX9_middle_16 : decode cX9_middle 16 = .ok (.ireturn, 1) := by decide +kernel
theorem dX9_middle_17 : decode cX9_middle 17 = .ok (.iconst 0, 1) := by decide +kernel
theorem dX9_middle_18 : decode cX9_middle 18 = .ok (.istore_n 2, 1) := by decide +kernel
theorem dX9_middle_19 : decode cX9_middle 19 = .ok (.iconst 0, 1) := by decide +kernel
theorem dX9_middle_20 : decode cX9_middle 20 = .ok (.istore_n 3, 1) := by decide +kernel
theorem dX9_middle_21 : decode cX9_middle 21 = .ok (.iconst 0, 1) := by decide +kernel
theorem dX9_middle_22 : decode cX9_middle 22 = .ok (.istore 4, 2) := by decide +kernel
theorem dX9_middle_24 : decode cX9_middle 24 = .ok (.iload 4, 2) := by decide +kernel
theorem dX9_middle_26 : decode cX9_middle 26 = .ok (.aload_n 0, 1) := by decide +kernel
theorem dX9_middle_27 : decode cX9_middle 27 = .ok (.getfield 35, 3) := by decide +kernel
theorem dX9_middle_30 : decode cX9_middle 30 = .ok (.if_icmp .ge 80, 3) := by decide +kernel
theorem dX9_middle_33 : decode cX9_middle 33 = .ok (.iload_n 1, 1) := by decide +kernel
theorem dX9_middle_34 : decode cX9_middle 34 = .ok (.ifCond .ne 12, 3) := by decide +kernel
theorem dX9_middle_37 : decode cX9_middle 37 = .ok (.aload_n 0, 1) := by decide +kernel
theorem dX9_middle_38 : decode cX9_middle 38 = .ok (.iload 4, 2) := by decide +kernel
theorem dX9_middle_40 : decode cX9_middle 40 = .ok (.invokevirtual 111, 3) := by decide +kernel
theorem dX9_middle_43 : decode cX9_middle 43 = .ok (.goto 23, 3) := by decide +kernel
theorem dX9_middle_46 : decode cX9_middle 46 = .ok (.iload_n 1, 1) := by decide +kernel
theorem dX9_middle_47 : decode cX9_middle 47 = .ok (.iconst 1, 1) := by decide +kernel
theorem dX9_middle_48 : decode cX9_middle 48 = .ok (.if_icmp .ne 12, 3) := by decide +kernel
theorem dX9_middle_51 : decode cX9_middle 51 = .ok (.aload_n 0, 1) := by decide +kernel
theorem dX9_middle_52 : decode cX9_middle 52 = .ok (.iload 4, 2) := by decide +kernel
theorem dX9_middle_54 : decode cX9_middle 54 = .ok (.invokevirtual 115, 3) := by decide +kernel
theorem dX9_middle_57 : decode cX9_middle 57 = .ok (.goto 9, 3) := by decide +kernel
theorem dX9_middle_60 : decode cX9_middle 60 = .ok (.aload_n 0, 1) := by decide +kernel
theorem dX9_middle_61 : decode cX9_middle 61 = .ok (.iload 4, 2) := by decide +kernel
theorem dX9_middle_63 : decode cX9_middle 63 = .ok (.invokevirtual 118, 3) := by decide +kernel
theorem dX9_middle_66 : decode cX9_middle 66 = .ok (.istore 5, 2) := by decide +kernel
theorem dX9_middle_68 : decode cX9_middle 68 = .ok (.iload 4, 2) := by decide +kernel
theorem dX9_middle_70 : decode cX9_middle 70 = .ok (.ifCond .eq 9, 3) := by decide +kernel
theorem dX9_middle_73 : decode cX9_middle 73 = .ok (.iload 5, 2) := by decide +kernel
theorem dX9_middle_75 : decode cX9_middle 75 = .ok (.iload_n 3, 1) := by decide +kernel
theorem dX9_middle_76 : decode cX9_middle 76 = .ok (.if_icmp .ge 8, 3) := by decide +kernel
theorem dX9_middle_79 : decode cX9_middle 79 = .ok (.iload 4, 2) := by decide +kernel
theorem dX9_middle_81 : decode cX9_middle 81 = .ok (.goto 4, 3) := by decide +kernel
theorem dX9_middle_84 : decode cX9_middle 84 = .ok (.iload_n 2, 1) := by decide +kernel
theorem dX9_middle_85 : decode cX9_middle 85 = .ok (.istore_n 2, 1) := by decide +kernel
theorem dX9_middle_86 : decode cX9_middle 86 = .ok (.iload 4, 2) := by decide +kernel
theorem dX9_middle_88 : decode cX9_middle 88 = .ok (.ifCond .eq 9, 3) := by decide +kernel
theorem dX9_middle_91 : decode cX9_middle 91 = .ok (.iload 5, 2) := by decide +kernel
theorem dX9_middle_93 : decode cX9_middle 93 = .ok (.iload_n 3, 1) := by decide +kernel
theorem dX9_middle_94 : decode cX9_middle 94 = .ok (.if_icmp .ge 8, 3) := by decide +kernel
theorem dX9_middle_97 : decode cX9_middle 97 = .ok (.iload 5, 2) := by decide +kernel
theorem dX9_middle_99 : decode cX9_middle 99 = .ok (.goto 4, 3) := by decide +kernel
theorem dX9_middle_102 : decode cX9_middle 102 = .ok (.iload_n 3, 1) := by decide +kernel
theorem dX9_middle_103 : decode cX9_middle 103 = .ok (.istore_n 3, 1) := by decide +kernel
theorem dX9_middle_104 : decode cX9_middle 104 = .ok (.iinc 4 1, 3) := by decide +kernel
theorem dX9_middle_107 : decode cX9_middle 107 = .ok (.goto (-83), 3) := by decide +kernel
theorem dX9_middle_110 : decode cX9_middle 110 = .ok (.iload_n 2, 1) := by decide +kernel
theorem dX9_middle_111 : decode cX9_middle 111 = .ok (.ireturn, 1) := by decide +kernel
theorem dX9_openMany_0 : decode cX9_openMany 0 = .ok (.iconst 0, 1) := by decide +kernel
theorem dX9_openMany_1 : decode cX9_openMany 1 = .ok (.istore_n 1, 1) := by decide +kernel
theorem dX9_openMany_2 : decode cX9_openMany 2 = .ok (.iconst 0, 1) := by decide +kernel
theorem dX9_openMany_3 : decode cX9_openMany 3 = .ok (.istore_n 2, 1) := by decide +kernel
theorem dX9_openMany_4 : decode cX9_openMany 4 = .ok (.iload_n 2, 1) := by decide +kernel
theorem dX9_openMany_5 : decode cX9_openMany 5 = .ok (.aload_n 0, 1) := by decide +kernel
theorem dX9_openMany_6 : decode cX9_openMany 6 = .ok (.getfield 35, 3) := by decide +kernel
theorem dX9_openMany_9 : decode cX9_openMany 9 = .ok (.if_icmp .ge 26, 3) := by decide +kernel
theorem dX9_openMany_12 : decode cX9_openMany 12 = .ok (.iload_n 1, 1) := by decide +kernel
theorem dX9_openMany_13 : decode cX9_openMany 13 = .ok (.aload_n 0, 1) := by decide +kernel
theorem dX9_openMany_14 : decode cX9_openMany 14 = .ok (.getfield 16, 3) := by decide +kernel
theorem dX9_openMany_17 : decode cX9_openMany 17 = .ok (.iload_n 2, 1) := by decide +kernel
theorem dX9_openMany_18 : decode cX9_openMany 18 = .ok (.baload, 1) := by decide +kernel
theorem dX9_openMany_19 : decode cX9_openMany 19 = .ok (.ifCond .eq 7, 3) := by decide +kernel
theorem dX9_openMany_22 : decode cX9_openMany 22 = .ok (.iconst 1, 1) := by decide +kernel
theorem dX9_openMany_23 : decode cX9_openMany 23 = .ok (.goto 4, 3) := by decide +kernel
theorem dX9_openMany_26 : decode cX9_openMany 26 = .ok (.iconst 0, 1) := by decide +kernel
theorem dX9_openMany_27 : decode cX9_openMany 27 = .ok (.iadd, 1) := by decide +kernel
theorem dX9_openMany_28 : decode cX9_openMany 28 = .ok (.istore_n 1, 1) := by decide +kernel
theorem dX9_openMany_29 : decode cX9_openMany 29 = .ok (.iinc 2 1, 3) := by decide +kernel
theorem dX9_openMany_32 : decode cX9_openMany 32 = .ok (.goto (-28), 3) := by decide +kernel
theorem dX9_openMany_35 : decode cX9_openMany 35 = .ok (.iload_n 1, 1) := by decide +kernel
theorem dX9_openMany_36 : decode cX9_openMany 36 = .ok (.ireturn, 1) := by decide +kernel
set_option maxRecDepth 20000 in
theorem ggX9_nearestOf_X9_farFrom : GoodIn wsX9_nearestOf wsX9_farFrom := goodIn_r _ [7, 8, 9, 10, 11, 12, 13, 14, 15, 16, 17, 18, 19, 20, 21, 22, 23, 24, 25, 26, 27, 28, 29, 30, 31] (by decide +kernel) (by decide +kernel)
set_option maxRecDepth 20000 in
theorem gX9_nearestOf_X9_farFrom : GoodIn wsX9_nearestOf (wsV RX9 99 RX9 yX9_farFrom wsX9_farFrom) := goodIn_app (goodIn_of _ (by decide +kernel)) ggX9_nearestOf_X9_farFrom
theorem dX9_nearestOf_0 : decode cX9_nearestOf 0 = .ok (.iconst (-1), 1) := by decide +kernel
theorem dX9_nearestOf_1 : decode cX9_nearestOf 1 = .ok (.istore_n 2, 1) := by decide +kernel
theorem dX9_nearestOf_2 : decode cX9_nearestOf 2 = .ok (.aload_n 0, 1) := by decide +kernel
theorem dX9_nearestOf_3 : decode cX9_nearestOf 3 = .ok (.getfield 35, 3) := by decide +kernel
theorem dX9_nearestOf_6 : decode cX9_nearestOf 6 = .ok (.iconst 1, 1) := by decide +kernel
theorem dX9_nearestOf_7 : decode cX9_nearestOf 7 = .ok (.isub, 1) := by decide +kernel
theorem dX9_nearestOf_8 : decode cX9_nearestOf 8 = .ok (.istore_n 3, 1) := by decide +kernel
theorem dX9_nearestOf_9 : decode cX9_nearestOf 9 = .ok (.iload_n 3, 1) := by decide +kernel
theorem dX9_nearestOf_10 : decode cX9_nearestOf 10 = .ok (.ifCond .lt 44, 3) := by decide +kernel
theorem dX9_nearestOf_13 : decode cX9_nearestOf 13 = .ok (.aload_n 0, 1) := by decide +kernel
theorem dX9_nearestOf_14 : decode cX9_nearestOf 14 = .ok (.getfield 16, 3) := by decide +kernel
theorem dX9_nearestOf_17 : decode cX9_nearestOf 17 = .ok (.iload_n 3, 1) := by decide +kernel
theorem dX9_nearestOf_18 : decode cX9_nearestOf 18 = .ok (.baload, 1) := by decide +kernel
theorem dX9_nearestOf_19 : decode cX9_nearestOf 19 = .ok (.ifCond .eq 27, 3) := by decide +kernel
theorem dX9_nearestOf_22 : decode cX9_nearestOf 22 = .ok (.iload_n 2, 1) := by decide +kernel
theorem dX9_nearestOf_23 : decode cX9_nearestOf 23 = .ok (.iconst (-1), 1) := by decide +kernel
theorem dX9_nearestOf_24 : decode cX9_nearestOf 24 = .ok (.if_icmp .eq 18, 3) := by decide +kernel
theorem dX9_nearestOf_27 : decode cX9_nearestOf 27 = .ok (.aload_n 0, 1) := by decide +kernel
theorem dX9_nearestOf_28 : decode cX9_nearestOf 28 = .ok (.iload_n 3, 1) := by decide +kernel
theorem dX9_nearestOf_29 : decode cX9_nearestOf 29 = .ok (.iload_n 1, 1) := by decide +kernel
theorem dX9_nearestOf_30 : decode cX9_nearestOf 30 = .ok (.invokevirtual 99, 3) := by decide +kernel
theorem dX9_nearestOf_33 : decode cX9_nearestOf 33 = .ok (.aload_n 0, 1) := by decide +kernel
theorem dX9_nearestOf_34 : decode cX9_nearestOf 34 = .ok (.iload_n 2, 1) := by decide +kernel
theorem dX9_nearestOf_35 : decode cX9_nearestOf 35 = .ok (.iload_n 1, 1) := by decide +kernel
theorem dX9_nearestOf_36 : decode cX9_nearestOf 36 = .ok (.invokevirtual 99, 3) := by decide +kernel
theorem dX9_nearestOf_39 : decode cX9_nearestOf 39 = .ok (.if_icmp .gt 7, 3) := by decide +kernel
theorem dX9_nearestOf_42 : decode cX9_nearestOf 42 = .ok (.iload_n 3, 1) := by decide +kernel
theorem dX9_nearestOf_43 : decode cX9_nearestOf 43 = .ok (.goto 4, 3) := by decide +kernel
theorem dX9_nearestOf_46 : decode cX9_nearestOf 46 = .ok (.iload_n 2, 1) := by decide +kernel
theorem dX9_nearestOf_47 : decode cX9_nearestOf 47 = .ok (.istore_n 2, 1) := by decide +kernel
theorem dX9_nearestOf_48 : decode cX9_nearestOf 48 = .ok (.iinc 3 (-1), 3) := by decide +kernel
theorem dX9_nearestOf_51 : decode cX9_nearestOf 51 = .ok (.goto (-42), 3) := by decide +kernel
theorem dX9_nearestOf_54 : decode cX9_nearestOf 54 = .ok (.iload_n 2, 1) := by decide +kernel
theorem dX9_nearestOf_55 : decode cX9_nearestOf 55 = .ok (.ireturn, 1) := by decide +kernel
set_option maxRecDepth 20000 in
theorem ggX9_nearest_X9_isVillage : GoodIn wsX9_nearest wsX9_isVillage := goodIn_r _ [5, 6, 7, 8, 4, 9, 26, 27, 28, 29, 30, 31, 32, 33, 34, 35, 36, 37, 38, 39, 40, 41, 42, 43, 44, 45, 46, 47] (by decide +kernel) (by decide +kernel)
set_option maxRecDepth 20000 in
theorem gX9_nearest_X9_isVillage : GoodIn wsX9_nearest (wsV RX9 49 RX9 yX9_isVillage wsX9_isVillage) := goodIn_app (goodIn_of _ (by decide +kernel)) ggX9_nearest_X9_isVillage
set_option maxRecDepth 20000 in
theorem ggX9_nearest_X9_in : GoodIn wsX9_nearest wsX9_in := goodIn_r _ [9] (by decide +kernel) (by decide +kernel)
set_option maxRecDepth 20000 in
theorem gX9_nearest_X9_in : GoodIn wsX9_nearest (va_wsS RX9 39 yX9_in wsX9_in) := goodIn_app (goodIn_of _ (by decide +kernel)) ggX9_nearest_X9_in
set_option maxRecDepth 20000 in
theorem ggX9_nearest_X9_refuse : GoodIn wsX9_nearest wsX9_refuse := goodIn_r _ [13, 14, 26, 27, 28, 29, 30, 31, 32, 33, 34, 35, 36, 37, 38, 39, 40, 41, 42, 43, 44, 45, 46, 47] (by decide +kernel) (by decide +kernel)
set_option maxRecDepth 20000 in
theorem gX9_nearest_X9_refuse : GoodIn wsX9_nearest (wsV RX9 55 RX9 yX9_refuse wsX9_refuse) := goodIn_app (goodIn_of _ (by decide +kernel)) ggX9_nearest_X9_refuse
set_option maxRecDepth 20000 in
theorem ggX9_nearest_X9_nearestOf : GoodIn wsX9_nearest wsX9_nearestOf := goodIn_r _ [18, 6, 19, 20, 21, 22, 4, 23, 24, 25, 26, 27, 28, 29, 30, 31, 32, 33, 34, 35, 36, 37, 38, 39, 40, 41, 42, 43, 44, 45, 46, 47] (by decide +kernel) (by decide +kernel)
set_option maxRecDepth 20000 in
theorem gX9_nearest_X9_nearestOf : GoodIn wsX9_nearest (wsV RX9 121 RX9 yX9_nearestOf wsX9_nearestOf) := goodIn_app (goodIn_of _ (by decide +kernel)) ggX9_nearest_X9_nearestOf
set_option maxRecDepth 20000 in
theorem ggX9_nearest_X9_farFrom : GoodIn wsX9_nearest wsX9_farFrom := goodIn_r _ [23, 24, 25, 26, 27, 28, 29, 30, 31, 32, 33, 34, 35, 36, 37, 38, 39, 40, 41, 42, 43, 44, 45, 46, 47] (by decide +kernel) (by decide +kernel)
set_option maxRecDepth 20000 in
theorem gX9_nearest_X9_farFrom : GoodIn wsX9_nearest (wsV RX9 99 RX9 yX9_farFrom wsX9_farFrom) := goodIn_app (goodIn_of _ (by decide +kernel)) ggX9_nearest_X9_farFrom
theorem dX9_nearest_0 : decode cX9_nearest 0 = .ok (.aload_n 0, 1) := by decide +kernel
theorem dX9_nearest_1 : decode cX9_nearest 1 = .ok (.iload_n 1, 1) := by decide +kernel
theorem dX9_nearest_2 : decode cX9_nearest 2 = .ok (.invokevirtual 49, 3) := by decide +kernel
theorem dX9_nearest_5 : decode cX9_nearest 5 = .ok (.ifCond .eq 13, 3) := by decide +kernel
theorem dX9_nearest_8 : decode cX9_nearest 8 = .ok (.iload_n 2, 1) := by decide +kernel
theorem dX9_nearest_9 : decode cX9_nearest 9 = .ok (.i2l, 1) := by decide +kernel
theorem dX9_nearest_10 : decode cX9_nearest 10 = .ok (.lconst 0, 1) := by decide +kernel
theorem dX9_nearest_11 : decode cX9_nearest 11 = .ok (.lconst 1, 1) := by decide +kernel
theorem dX9_nearest_12 : decode cX9_nearest 12 = .ok (.invokestatic 39, 3) := by decide +kernel
theorem dX9_nearest_15 : decode cX9_nearest 15 = .ok (.ifCond .ne 8, 3) := by decide +kernel
theorem dX9_nearest_18 : decode cX9_nearest 18 = .ok (.aload_n 0, 1) := by decide +kernel
theorem dX9_nearest_19 : decode cX9_nearest 19 = .ok (.invokevirtual 55, 3) := by decide +kernel
theorem dX9_nearest_22 : decode cX9_nearest 22 = .ok (.ireturn, 1) := by decide +kernel
theorem dX9_nearest_23 : decode cX9_nearest 23 = .ok (.aload_n 0, 1) := by decide +kernel
theorem dX9_nearest_24 : decode cX9_nearest 24 = .ok (.iload_n 1, 1) := by decide +kernel
theorem dX9_nearest_25 : decode cX9_nearest 25 = .ok (.invokevirtual 121, 3) := by decide +kernel
theorem dX9_nearest_28 : decode cX9_nearest 28 = .ok (.istore_n 3, 1) := by decide +kernel
theorem dX9_nearest_29 : decode cX9_nearest 29 = .ok (.iload_n 2, 1) := by decide +kernel
theorem dX9_nearest_30 : decode cX9_nearest 30 = .ok (.ifCond .eq 8, 3) := by decide +kernel
theorem dX9_nearest_33 : decode cX9_nearest 33 = .ok (.iload_n 3, 1) := by decide +kernel
theorem dX9_nearest_34 : decode cX9_nearest 34 = .ok (.iconst (-1), 1) := by decide +kernel
theorem dX9_nearest_35 : decode cX9_nearest 35 = .ok (.if_icmp .ne 7, 3) := by decide +kernel
theorem dX9_nearest_38 : decode cX9_nearest 38 = .ok (.iload_n 3, 1) := by decide +kernel
theorem dX9_nearest_39 : decode cX9_nearest 39 = .ok (.goto 9, 3) := by decide +kernel
theorem dX9_nearest_42 : decode cX9_nearest 42 = .ok (.aload_n 0, 1) := by decide +kernel
theorem dX9_nearest_43 : decode cX9_nearest 43 = .ok (.iload_n 3, 1) := by decide +kernel
theorem dX9_nearest_44 : decode cX9_nearest 44 = .ok (.iload_n 1, 1) := by decide +kernel
theorem dX9_nearest_45 : decode cX9_nearest 45 = .ok (.invokevirtual 99, 3) := by decide +kernel
theorem dX9_nearest_48 : decode cX9_nearest 48 = .ok (.ireturn, 1) := by decide +kernel
set_option maxRecDepth 20000 in
theorem ggX9_turn_X9_isVillage : GoodIn wsX9_turn wsX9_isVillage := goodIn_r _ [7, 1, 8, 9, 6, 10, 22, 23, 24, 25, 26, 27, 28, 29, 30, 31, 32, 33, 34, 35, 36, 37, 38, 39, 40, 41, 42, 43] (by decide +kernel) (by decide +kernel)
set_option maxRecDepth 20000 in
theorem gX9_turn_X9_isVillage : GoodIn wsX9_turn (wsV RX9 49 RX9 yX9_isVillage wsX9_isVillage) := goodIn_app (goodIn_of _ (by decide +kernel)) ggX9_turn_X9_isVillage
set_option maxRecDepth 20000 in
theorem ggX9_turn_X9_in : GoodIn wsX9_turn wsX9_in := goodIn_r _ [10] (by decide +kernel) (by decide +kernel)
set_option maxRecDepth 20000 in
theorem gX9_turn_X9_in : GoodIn wsX9_turn (va_wsS RX9 39 yX9_in wsX9_in) := goodIn_app (goodIn_of _ (by decide +kernel)) ggX9_turn_X9_in
set_option maxRecDepth 20000 in
theorem ggX9_turn_X9_refuse : GoodIn wsX9_turn wsX9_refuse := goodIn_r _ [14, 15, 22, 23, 24, 25, 26, 27, 28, 29, 30, 31, 32, 33, 34, 35, 36, 37, 38, 39, 40, 41, 42, 43] (by decide +kernel) (by decide +kernel)
set_option maxRecDepth 20000 in
theorem gX9_turn_X9_refuse : GoodIn wsX9_turn (wsV RX9 55 RX9 yX9_refuse wsX9_refuse) := goodIn_app (goodIn_of _ (by decide +kernel)) ggX9_turn_X9_refuse
set_option maxRecDepth 20000 in
theorem ggX9_turn_X9_farFrom : GoodIn wsX9_turn wsX9_farFrom := goodIn_r _ [19, 20, 21, 22, 23, 24, 25, 26, 27, 28, 29, 30, 31, 32, 33, 34, 35, 36, 37, 38, 39, 40, 41, 42, 43] (by decide +kernel) (by decide +kernel)
set_option maxRecDepth 20000 in
theorem gX9_turn_X9_farFrom : GoodIn wsX9_turn (wsV RX9 99 RX9 yX9_farFrom wsX9_farFrom) := goodIn_app (goodIn_of _ (by decide +kernel)) ggX9_turn_X9_farFrom
theorem dX9_turn_0 : decode cX9_turn 0 = .ok (.aload_n 0, 1) := by decide +kernel
theorem dX9_turn_1 : decode cX9_turn 1 = .ok (.iload_n 1, 1) := by decide +kernel
theorem dX9_turn_2 : decode cX9_turn 2 = .ok (.invokevirtual 49, 3) := by decide +kernel
theorem dX9_turn_5 : decode cX9_turn 5 = .ok (.ifCond .eq 17, 3) := by decide +kernel
theorem dX9_turn_8 : decode cX9_turn 8 = .ok (.iload_n 2, 1) := by decide +kernel
theorem dX9_turn_9 : decode cX9_turn 9 = .ok (.ifCond .lt 13, 3) := by decide +kernel
theorem dX9_turn_12 : decode cX9_turn 12 = .ok (.iload_n 3, 1) := by decide +kernel
theorem dX9_turn_13 : decode cX9_turn 13 = .ok (.i2l, 1) := by decide +kernel
theorem dX9_turn_14 : decode cX9_turn 14 = .ok (.lconst 0, 1) := by decide +kernel
theorem dX9_turn_15 : decode cX9_turn 15 = .ok (.lconst 1, 1) := by decide +kernel
theorem dX9_turn_16 : decode cX9_turn 16 = .ok (.invokestatic 39, 3) := by decide +kernel
theorem dX9_turn_19 : decode cX9_turn 19 = .ok (.ifCond .ne 8, 3) := by decide +kernel
theorem dX9_turn_22 : decode cX9_turn 22 = .ok (.aload_n 0, 1) := by decide +kernel
theorem dX9_turn_23 : decode cX9_turn 23 = .ok (.invokevirtual 55, 3) := by decide +kernel
theorem dX9_turn_26 : decode cX9_turn 26 = .ok (.ireturn, 1) := by decide +kernel
theorem dX9_turn_27 : decode cX9_turn 27 = .ok (.iconst 0, 1) := by decide +kernel
theorem dX9_turn_28 : decode cX9_turn 28 = .ok (.istore 4, 2) := by decide +kernel
theorem dX9_turn_30 : decode cX9_turn 30 = .ok (.iload 4, 2) := by decide +kernel
theorem dX9_turn_32 : decode cX9_turn 32 = .ok (.aload_n 0, 1) := by decide +kernel
theorem dX9_turn_33 : decode cX9_turn 33 = .ok (.getfield 35, 3) := by decide +kernel
theorem dX9_turn_36 : decode cX9_turn 36 = .ok (.if_icmp .ge 127, 3) := by decide +kernel
theorem dX9_turn_39 : decode cX9_turn 39 = .ok (.iconst 0, 1) := by decide +kernel
theorem dX9_turn_40 : decode cX9_turn 40 = .ok (.istore 5, 2) := by decide +kernel
theorem dX9_turn_42 : decode cX9_turn 42 = .ok (.iconst 0, 1) := by decide +kernel
theorem dX9_turn_43 : decode cX9_turn 43 = .ok (.istore 6, 2) := by decide +kernel
theorem dX9_turn_45 : decode cX9_turn 45 = .ok (.iload 6, 2) := by decide +kernel
theorem dX9_turn_47 : decode cX9_turn 47 = .ok (.aload_n 0, 1) := by decide +kernel
theorem dX9_turn_48 : decode cX9_turn 48 = .ok (.getfield 35, 3) := by decide +kernel
theorem dX9_turn_51 : decode cX9_turn 51 = .ok (.if_icmp .ge 73, 3) := by decide +kernel
theorem dX9_turn_54 : decode cX9_turn 54 = .ok (.aload_n 0, 1) := by decide +kernel
theorem dX9_turn_55 : decode cX9_turn 55 = .ok (.getfield 16, 3) := by decide +kernel
theorem dX9_turn_58 : decode cX9_turn 58 = .ok (.iload 4, 2) := by decide +kernel
theorem dX9_turn_60 : decode cX9_turn 60 = .ok (.baload, 1) := by decide +kernel
theorem dX9_turn_61 : decode cX9_turn 61 = .ok (.ifCond .eq 63, 3) := by decide +kernel
theorem dX9_turn_64 : decode cX9_turn 64 = .ok (.aload_n 0, 1) := by decide +kernel
theorem dX9_turn_65 : decode cX9_turn 65 = .ok (.iload 6, 2) := by decide +kernel
theorem dX9_turn_67 : decode cX9_turn 67 = .ok (.iload_n 1, 1) := by decide +kernel
theorem dX9_turn_68 : decode cX9_turn 68 = .ok (.invokevirtual 99, 3) := by decide +kernel
theorem dX9_turn_71 : decode cX9_turn 71 = .ok (.aload_n 0, 1) := by decide +kernel
theorem dX9_turn_72 : decode cX9_turn 72 = .ok (.iload 4, 2) := by decide +kernel
theorem dX9_turn_74 : decode cX9_turn 74 = .ok (.iload_n 1, 1) := by decide +kernel
theorem dX9_turn_75 : decode cX9_turn 75 = .ok (.invokevirtual 99, 3) := by decide +kernel
theorem dX9_turn_78 : decode cX9_turn 78 = .ok (.isub, 1) := by decide +kernel
theorem dX9_turn_79 : decode cX9_turn 79 = .ok (.istore 7, 2) := by decide +kernel
theorem dX9_turn_81 : decode cX9_turn 81 = .ok (.iload 5, 2) := by decide +kernel
theorem dX9_turn_83 : decode cX9_turn 83 = .ok (.aload_n 0, 1) := by decide +kernel
theorem dX9_turn_84 : decode cX9_turn 84 = .ok (.getfield 16, 3) := by decide +kernel
theorem dX9_turn_87 : decode cX9_turn 87 = .ok (.iload 6, 2) := by decide +kernel
theorem dX9_turn_89 : decode cX9_turn 89 = .ok (.baload, 1) := by decide +kernel
theorem dX9_turn_90 : decode cX9_turn 90 = .ok (.ifCond .eq 24, 3) := by decide +kernel
theorem dX9_turn_93 : decode cX9_turn 93 = .ok (.iload 7, 2) := by decide +kernel
theorem dX9_turn_95 : decode cX9_turn 95 = .ok (.ifCond .lt 15, 3) := by decide +kernel
theorem dX9_turn_98 : decode cX9_turn 98 = .ok (.iload 7, 2) := by decide +kernel
theorem dX9_turn_100 : decode cX9_turn 100 = .ok (.ifCond .ne 14, 3) := by decide +kernel
theorem dX9_turn_103 : decode cX9_turn 103 = .ok (.iload 6, 2) := by decide +kernel
theorem dX9_turn_105 : decode cX9_turn 105 = .ok (.iload 4, 2) := by decide +kernel
theorem dX9_turn_107 : decode cX9_turn 107 = .ok (.if_icmp .ge 7, 3) := by decide +kernel
theorem dX9_turn_110 : decode cX9_turn 110 = .ok (.iconst 1, 1) := by decide +kernel
theorem dX9_turn_111 : decode cX9_turn 111 = .ok (.goto 4, 3) := by decide +kernel
theorem dX9_turn_114 : decode cX9_turn 114 = .ok (.iconst 0, 1) := by decide +kernel
theorem dX9_turn_115 : decode cX9_turn 115 = .ok (.iadd, 1) := by decide +kernel
theorem dX9_turn_116 : decode cX9_turn 116 = .ok (.istore 5, 2) := by decide +kernel
theorem dX9_turn_118 : decode cX9_turn 118 = .ok (.iinc 6 1, 3) := by decide +kernel
theorem dX9_turn_121 : decode cX9_turn 121 = .ok (.goto (-76), 3) := by decide +kernel
theorem dX9_turn_124 : decode cX9_turn 124 = .ok (.aload_n 0, 1) := by decide +kernel
theorem dX9_turn_125 : decode cX9_turn 125 = .ok (.getfield 16, 3) := by decide +kernel
theorem dX9_turn_128 : decode cX9_turn 128 = .ok (.iload 4, 2) := by decide +kernel
theorem dX9_turn_130 : decode cX9_turn 130 = .ok (.baload, 1) := by decide +kernel
theorem dX9_turn_131 : decode cX9_turn 131 = .ok (.ifCond .eq 26, 3) := by decide +kernel
theorem dX9_turn_134 : decode cX9_turn 134 = .ok (.iload 5, 2) := by decide +kernel
theorem dX9_turn_136 : decode cX9_turn 136 = .ok (.iload_n 2, 1) := by decide +kernel
theorem dX9_turn_137 : decode cX9_turn 137 = .ok (.if_icmp .ne 20, 3) := by decide +kernel
theorem dX9_turn_140 : decode cX9_turn 140 = .ok (.iload_n 3, 1) := by decide +kernel
theorem dX9_turn_141 : decode cX9_turn 141 = .ok (.ifCond .ne 8, 3) := by decide +kernel
theorem dX9_turn_144 : decode cX9_turn 144 = .ok (.iload 4, 2) := by decide +kernel
theorem dX9_turn_146 : decode cX9_turn 146 = .ok (.goto 10, 3) := by decide +kernel
theorem dX9_turn_149 : decode cX9_turn 149 = .ok (.aload_n 0, 1) := by decide +kernel
theorem dX9_turn_150 : decode cX9_turn 150 = .ok (.iload 4, 2) := by decide +kernel
theorem dX9_turn_152 : decode cX9_turn 152 = .ok (.iload_n 1, 1) := by decide +kernel
theorem dX9_turn_153 : decode cX9_turn 153 = .ok (.invokevirtual 99, 3) := by decide +kernel
theorem dX9_turn_156 : decode cX9_turn 156 = .ok (.ireturn, 1) := by decide +kernel
theorem dX9_turn_157 : decode cX9_turn 157 = .ok (.iinc 4 1, 3) := by decide +kernel
theorem dX9_turn_160 : decode cX9_turn 160 = .ok (.goto (-130), 3) := by decide +kernel
theorem dX9_turn_163 : decode cX9_turn 163 = .ok (.iconst (-1), 1) := by decide +kernel
theorem dX9_turn_164 : decode cX9_turn 164 = .ok (.ireturn, 1) := by decide +kernel
set_option maxRecDepth 20000 in
theorem ggX9_manyWithin_X9_farFrom : GoodIn wsX9_manyWithin wsX9_farFrom := goodIn_r _ [7, 8, 9, 10, 11, 12, 13, 14, 15, 16, 17, 18, 19, 20, 21, 22, 23, 24, 25, 26, 27, 28, 29, 30, 31] (by decide +kernel) (by decide +kernel)
set_option maxRecDepth 20000 in
theorem gX9_manyWithin_X9_farFrom : GoodIn wsX9_manyWithin (wsV RX9 99 RX9 yX9_farFrom wsX9_farFrom) := goodIn_app (goodIn_of _ (by decide +kernel)) ggX9_manyWithin_X9_farFrom
theorem dX9_manyWithin_0 : decode cX9_manyWithin 0 = .ok (.iconst 0, 1) := by decide +kernel
theorem dX9_manyWithin_1 : decode cX9_manyWithin 1 = .ok (.istore_n 3, 1) := by decide +kernel
theorem dX9_manyWithin_2 : decode cX9_manyWithin 2 = .ok (.iconst 0, 1) := by decide +kernel
theorem dX9_manyWithin_3 : decode cX9_manyWithin 3 = .ok (.istore 4, 2) := by decide +kernel
theorem dX9_manyWithin_5 : decode cX9_manyWithin 5 = .ok (.iload 4, 2) := by decide +kernel
theorem dX9_manyWithin_7 : decode cX9_manyWithin 7 = .ok (.aload_n 0, 1) := by decide +kernel
theorem dX9_manyWithin_8 : decode cX9_manyWithin 8 = .ok (.getfield 35, 3) := by decide +kernel
theorem dX9_manyWithin_11 : decode cX9_manyWithin 11 = .ok (.if_icmp .ge 38, 3) := by decide +kernel
theorem dX9_manyWithin_14 : decode cX9_manyWithin 14 = .ok (.iload_n 3, 1) := by decide +kernel
theorem dX9_manyWithin_15 : decode cX9_manyWithin 15 = .ok (.aload_n 0, 1) := by decide +kernel
theorem dX9_manyWithin_16 : decode cX9_manyWithin 16 = .ok (.getfield 16, 3) := by decide +kernel
theorem dX9_manyWithin_19 : decode cX9_manyWithin 19 = .ok (.iload 4, 2) := by decide +kernel
theorem dX9_manyWithin_21 : decode cX9_manyWithin 21 = .ok (.baload, 1) := by decide +kernel
theorem dX9_manyWithin_22 : decode cX9_manyWithin 22 = .ok (.ifCond .eq 18, 3) := by decide +kernel
theorem dX9_manyWithin_25 : decode cX9_manyWithin 25 = .ok (.aload_n 0, 1) := by decide +kernel
theorem dX9_manyWithin_26 : decode cX9_manyWithin 26 = .ok (.iload 4, 2) := by decide +kernel
theorem dX9_manyWithin_28 : decode cX9_manyWithin 28 = .ok (.iload_n 1, 1) := by decide +kernel
theorem dX9_manyWithin_29 : decode cX9_manyWithin 29 = .ok (.invokevirtual 99, 3) := by decide +kernel
theorem dX9_manyWithin_32 : decode cX9_manyWithin 32 = .ok (.iload_n 2, 1) := by decide +kernel
theorem dX9_manyWithin_33 : decode cX9_manyWithin 33 = .ok (.if_icmp .gt 7, 3) := by decide +kernel
theorem dX9_manyWithin_36 : decode cX9_manyWithin 36 = .ok (.iconst 1, 1) := by decide +kernel
theorem dX9_manyWithin_37 : decode cX9_manyWithin 37 = .ok (.goto 4, 3) := by decide +kernel
theorem dX9_manyWithin_40 : decode cX9_manyWithin 40 = .ok (.iconst 0, 1) := by decide +kernel
theorem dX9_manyWithin_41 : decode cX9_manyWithin 41 = .ok (.iadd, 1) := by decide +kernel
theorem dX9_manyWithin_42 : decode cX9_manyWithin 42 = .ok (.istore_n 3, 1) := by decide +kernel
theorem dX9_manyWithin_43 : decode cX9_manyWithin 43 = .ok (.iinc 4 1, 3) := by decide +kernel
theorem dX9_manyWithin_46 : decode cX9_manyWithin 46 = .ok (.goto (-41), 3) := by decide +kernel
theorem dX9_manyWithin_49 : decode cX9_manyWithin 49 = .ok (.iload_n 3, 1) := by decide +kernel
theorem dX9_manyWithin_50 : decode cX9_manyWithin 50 = .ok (.ireturn, 1) := by decide +kernel
set_option maxRecDepth 20000 in
theorem ggX9_within_X9_isVillage : GoodIn wsX9_within wsX9_isVillage := goodIn_r _ [6, 7, 8, 9, 5, 10, 27, 28, 29, 30, 31, 32, 33, 34, 35, 36, 37, 38, 39, 40, 41, 42, 43, 44, 45, 46, 47, 48] (by decide +kernel) (by decide +kernel)
set_option maxRecDepth 20000 in
theorem gX9_within_X9_isVillage : GoodIn wsX9_within (wsV RX9 49 RX9 yX9_isVillage wsX9_isVillage) := goodIn_app (goodIn_of _ (by decide +kernel)) ggX9_within_X9_isVillage
set_option maxRecDepth 20000 in
theorem ggX9_within_X9_in : GoodIn wsX9_within wsX9_in := goodIn_r _ [10] (by decide +kernel) (by decide +kernel)
set_option maxRecDepth 20000 in
theorem gX9_within_X9_in : GoodIn wsX9_within (va_wsS RX9 39 yX9_in wsX9_in) := goodIn_app (goodIn_of _ (by decide +kernel)) ggX9_within_X9_in
set_option maxRecDepth 20000 in
theorem ggX9_within_X9_manyWithin : GoodIn wsX9_within wsX9_manyWithin := goodIn_r _ [14, 7, 15, 16, 17, 18, 5, 19, 20, 21, 27, 28, 29, 30, 31, 32, 33, 34, 35, 36, 37, 38, 39, 40, 41, 42, 43, 44, 45, 46, 47, 48] (by decide +kernel) (by decide +kernel)
set_option maxRecDepth 20000 in
theorem gX9_within_X9_manyWithin : GoodIn wsX9_within (wsV RX9 126 RX9 yX9_manyWithin wsX9_manyWithin) := goodIn_app (goodIn_of _ (by decide +kernel)) ggX9_within_X9_manyWithin
set_option maxRecDepth 20000 in
theorem ggX9_within_X9_refuse : GoodIn wsX9_within wsX9_refuse := goodIn_r _ [25, 26, 27, 28, 29, 30, 31, 32, 33, 34, 35, 36, 37, 38, 39, 40, 41, 42, 43, 44, 45, 46, 47, 48] (by decide +kernel) (by decide +kernel)
set_option maxRecDepth 20000 in
theorem gX9_within_X9_refuse : GoodIn wsX9_within (wsV RX9 55 RX9 yX9_refuse wsX9_refuse) := goodIn_app (goodIn_of _ (by decide +kernel)) ggX9_within_X9_refuse
theorem dX9_within_0 : decode cX9_within 0 = .ok (.aload_n 0, 1) := by decide +kernel
theorem dX9_within_1 : decode cX9_within 1 = .ok (.iload_n 1, 1) := by decide +kernel
theorem dX9_within_2 : decode cX9_within 2 = .ok (.invokevirtual 49, 3) := by decide +kernel
theorem dX9_within_5 : decode cX9_within 5 = .ok (.ifCond .eq 24, 3) := by decide +kernel
theorem dX9_within_8 : decode cX9_within 8 = .ok (.iload_n 2, 1) := by decide +kernel
theorem dX9_within_9 : decode cX9_within 9 = .ok (.i2l, 1) := by decide +kernel
theorem dX9_within_10 : decode cX9_within 10 = .ok (.lconst 0, 1) := by decide +kernel
theorem dX9_within_11 : decode cX9_within 11 = .ok (.ldc2_w 124, 3) := by decide +kernel
theorem dX9_within_14 : decode cX9_within 14 = .ok (.invokestatic 39, 3) := by decide +kernel
theorem dX9_within_17 : decode cX9_within 17 = .ok (.ifCond .eq 12, 3) := by decide +kernel
theorem dX9_within_20 : decode cX9_within 20 = .ok (.aload_n 0, 1) := by decide +kernel
theorem dX9_within_21 : decode cX9_within 21 = .ok (.iload_n 1, 1) := by decide +kernel
theorem dX9_within_22 : decode cX9_within 22 = .ok (.iload_n 2, 1) := by decide +kernel
theorem dX9_within_23 : decode cX9_within 23 = .ok (.invokevirtual 126, 3) := by decide +kernel
theorem dX9_within_26 : decode cX9_within 26 = .ok (.goto 7, 3) := by decide +kernel
theorem dX9_within_29 : decode cX9_within 29 = .ok (.aload_n 0, 1) := by decide +kernel
theorem dX9_within_30 : decode cX9_within 30 = .ok (.invokevirtual 55, 3) := by decide +kernel
theorem dX9_within_33 : decode cX9_within 33 = .ok (.ireturn, 1) := by decide +kernel
set_option maxRecDepth 20000 in
theorem ggX9_sumOfOpen_X9_farFrom : GoodIn wsX9_sumOfOpen wsX9_farFrom := goodIn_r _ [7, 8, 9, 10, 11, 12, 13, 14, 15, 16, 17, 18, 19, 20, 21, 22, 23, 24, 25, 26, 27, 28, 29, 30, 31] (by decide +kernel) (by decide +kernel)
set_option maxRecDepth 20000 in
theorem gX9_sumOfOpen_X9_farFrom : GoodIn wsX9_sumOfOpen (wsV RX9 99 RX9 yX9_farFrom wsX9_farFrom) := goodIn_app (goodIn_of _ (by decide +kernel)) ggX9_sumOfOpen_X9_farFrom
theorem dX9_sumOfOpen_0 : decode cX9_sumOfOpen 0 = .ok (.iconst 0, 1) := by decide +kernel
theorem dX9_sumOfOpen_1 : decode cX9_sumOfOpen 1 = .ok (.istore_n 2, 1) := by decide +kernel
theorem dX9_sumOfOpen_2 : decode cX9_sumOfOpen 2 = .ok (.iconst 0, 1) := by decide +kernel
theorem dX9_sumOfOpen_3 : decode cX9_sumOfOpen 3 = .ok (.istore_n 3, 1) := by decide +kernel
theorem dX9_sumOfOpen_4 : decode cX9_sumOfOpen 4 = .ok (.iload_n 3, 1) := by decide +kernel
theorem dX9_sumOfOpen_5 : decode cX9_sumOfOpen 5 = .ok (.aload_n 0, 1) := by decide +kernel
theorem dX9_sumOfOpen_6 : decode cX9_sumOfOpen 6 = .ok (.getfield 35, 3) := by decide +kernel
theorem dX9_sumOfOpen_9 : decode cX9_sumOfOpen 9 = .ok (.if_icmp .ge 31, 3) := by decide +kernel
theorem dX9_sumOfOpen_12 : decode cX9_sumOfOpen 12 = .ok (.iload_n 2, 1) := by decide +kernel
theorem dX9_sumOfOpen_13 : decode cX9_sumOfOpen 13 = .ok (.aload_n 0, 1) := by decide +kernel
theorem dX9_sumOfOpen_14 : decode cX9_sumOfOpen 14 = .ok (.getfield 16, 3) := by decide +kernel
theorem dX9_sumOfOpen_17 : decode cX9_sumOfOpen 17 = .ok (.iload_n 3, 1) := by decide +kernel
theorem dX9_sumOfOpen_18 : decode cX9_sumOfOpen 18 = .ok (.baload, 1) := by decide +kernel
theorem dX9_sumOfOpen_19 : decode cX9_sumOfOpen 19 = .ok (.ifCond .eq 12, 3) := by decide +kernel
theorem dX9_sumOfOpen_22 : decode cX9_sumOfOpen 22 = .ok (.aload_n 0, 1) := by decide +kernel
theorem dX9_sumOfOpen_23 : decode cX9_sumOfOpen 23 = .ok (.iload_n 3, 1) := by decide +kernel
theorem dX9_sumOfOpen_24 : decode cX9_sumOfOpen 24 = .ok (.iload_n 1, 1) := by decide +kernel
theorem dX9_sumOfOpen_25 : decode cX9_sumOfOpen 25 = .ok (.invokevirtual 99, 3) := by decide +kernel
theorem dX9_sumOfOpen_28 : decode cX9_sumOfOpen 28 = .ok (.goto 4, 3) := by decide +kernel
theorem dX9_sumOfOpen_31 : decode cX9_sumOfOpen 31 = .ok (.iconst 0, 1) := by decide +kernel
theorem dX9_sumOfOpen_32 : decode cX9_sumOfOpen 32 = .ok (.iadd, 1) := by decide +kernel
theorem dX9_sumOfOpen_33 : decode cX9_sumOfOpen 33 = .ok (.istore_n 2, 1) := by decide +kernel
theorem dX9_sumOfOpen_34 : decode cX9_sumOfOpen 34 = .ok (.iinc 3 1, 3) := by decide +kernel
theorem dX9_sumOfOpen_37 : decode cX9_sumOfOpen 37 = .ok (.goto (-33), 3) := by decide +kernel
theorem dX9_sumOfOpen_40 : decode cX9_sumOfOpen 40 = .ok (.iload_n 2, 1) := by decide +kernel
theorem dX9_sumOfOpen_41 : decode cX9_sumOfOpen 41 = .ok (.ireturn, 1) := by decide +kernel
set_option maxRecDepth 20000 in
theorem ggX9_sum_X9_isVillage : GoodIn wsX9_sum wsX9_isVillage := goodIn_r _ [5, 6, 7, 8, 4, 9, 26, 27, 28, 29, 30, 31, 32, 33, 34, 35, 36, 37, 38, 39, 40, 41, 42, 43, 44, 45, 46, 47] (by decide +kernel) (by decide +kernel)
set_option maxRecDepth 20000 in
theorem gX9_sum_X9_isVillage : GoodIn wsX9_sum (wsV RX9 49 RX9 yX9_isVillage wsX9_isVillage) := goodIn_app (goodIn_of _ (by decide +kernel)) ggX9_sum_X9_isVillage
set_option maxRecDepth 20000 in
theorem ggX9_sum_X9_sumOfOpen : GoodIn wsX9_sum wsX9_sumOfOpen := goodIn_r _ [13, 6, 14, 15, 16, 17, 4, 18, 19, 20, 26, 27, 28, 29, 30, 31, 32, 33, 34, 35, 36, 37, 38, 39, 40, 41, 42, 43, 44, 45, 46, 47] (by decide +kernel) (by decide +kernel)
set_option maxRecDepth 20000 in
theorem gX9_sum_X9_sumOfOpen : GoodIn wsX9_sum (wsV RX9 129 RX9 yX9_sumOfOpen wsX9_sumOfOpen) := goodIn_app (goodIn_of _ (by decide +kernel)) ggX9_sum_X9_sumOfOpen
set_option maxRecDepth 20000 in
theorem ggX9_sum_X9_refuse : GoodIn wsX9_sum wsX9_refuse := goodIn_r _ [24, 25, 26, 27, 28, 29, 30, 31, 32, 33, 34, 35, 36, 37, 38, 39, 40, 41, 42, 43, 44, 45, 46, 47] (by decide +kernel) (by decide +kernel)
set_option maxRecDepth 20000 in
theorem gX9_sum_X9_refuse : GoodIn wsX9_sum (wsV RX9 55 RX9 yX9_refuse wsX9_refuse) := goodIn_app (goodIn_of _ (by decide +kernel)) ggX9_sum_X9_refuse
theorem dX9_sum_0 : decode cX9_sum 0 = .ok (.aload_n 0, 1) := by decide +kernel
theorem dX9_sum_1 : decode cX9_sum 1 = .ok (.iload_n 1, 1) := by decide +kernel
theorem dX9_sum_2 : decode cX9_sum 2 = .ok (.invokevirtual 49, 3) := by decide +kernel
theorem dX9_sum_5 : decode cX9_sum 5 = .ok (.ifCond .eq 11, 3) := by decide +kernel
theorem dX9_sum_8 : decode cX9_sum 8 = .ok (.aload_n 0, 1) := by decide +kernel
theorem dX9_sum_9 : decode cX9_sum 9 = .ok (.iload_n 1, 1) := by decide +kernel
theorem dX9_sum_10 : decode cX9_sum 10 = .ok (.invokevirtual 129, 3) := by decide +kernel
theorem dX9_sum_13 : decode cX9_sum 13 = .ok (.goto 7, 3) := by decide +kernel
theorem dX9_sum_16 : decode cX9_sum 16 = .ok (.aload_n 0, 1) := by decide +kernel
theorem dX9_sum_17 : decode cX9_sum 17 = .ok (.invokevirtual 55, 3) := by decide +kernel
theorem dX9_sum_20 : decode cX9_sum 20 = .ok (.ireturn, 1) := by decide +kernel
set_option maxRecDepth 20000 in
theorem ggX9_findLeft_X9_nearestOf : GoodIn wsX9_findLeft wsX9_nearestOf := goodIn_r _ [7, 1, 8, 9, 10, 11, 6, 12, 13, 14, 15, 16, 17, 18, 19, 20, 21, 22, 23, 24, 25, 26, 27, 28, 29, 30, 31, 32, 33, 34, 35, 36] (by decide +kernel) (by decide +kernel)
set_option maxRecDepth 20000 in
theorem gX9_findLeft_X9_nearestOf : GoodIn wsX9_findLeft (wsV RX9 121 RX9 yX9_nearestOf wsX9_nearestOf) := goodIn_app (goodIn_of _ (by decide +kernel)) ggX9_findLeft_X9_nearestOf
set_option maxRecDepth 20000 in
theorem ggX9_findLeft_X9_farFrom : GoodIn wsX9_findLeft wsX9_farFrom := goodIn_r _ [12, 13, 14, 15, 16, 17, 18, 19, 20, 21, 22, 23, 24, 25, 26, 27, 28, 29, 30, 31, 32, 33, 34, 35, 36] (by decide +kernel) (by decide +kernel)
set_option maxRecDepth 20000 in
theorem gX9_findLeft_X9_farFrom : GoodIn wsX9_findLeft (wsV RX9 99 RX9 yX9_farFrom wsX9_farFrom) := goodIn_app (goodIn_of _ (by decide +kernel)) ggX9_findLeft_X9_farFrom
theorem dX9_findLeft_0 : decode cX9_findLeft 0 = .ok (.iconst (-1), 1) := by decide +kernel
theorem dX9_findLeft_1 : decode cX9_findLeft 1 = .ok (.istore_n 1, 1) := by decide +kernel
theorem dX9_findLeft_2 : decode cX9_findLeft 2 = .ok (.iconst 0, 1) := by decide +kernel
theorem dX9_findLeft_3 : decode cX9_findLeft 3 = .ok (.istore_n 2, 1) := by decide +kernel
theorem dX9_findLeft_4 : decode cX9_findLeft 4 = .ok (.iload_n 2, 1) := by decide +kernel
theorem dX9_findLeft_5 : decode cX9_findLeft 5 = .ok (.aload_n 0, 1) := by decide +kernel
theorem dX9_findLeft_6 : decode cX9_findLeft 6 = .ok (.getfield 35, 3) := by decide +kernel
theorem dX9_findLeft_9 : decode cX9_findLeft 9 = .ok (.if_icmp .ge 63, 3) := by decide +kernel
theorem dX9_findLeft_12 : decode cX9_findLeft 12 = .ok (.aload_n 0, 1) := by decide +kernel
theorem dX9_findLeft_13 : decode cX9_findLeft 13 = .ok (.iload_n 2, 1) := by decide +kernel
theorem dX9_findLeft_14 : decode cX9_findLeft 14 = .ok (.invokevirtual 121, 3) := by decide +kernel
theorem dX9_findLeft_17 : decode cX9_findLeft 17 = .ok (.istore_n 3, 1) := by decide +kernel
theorem dX9_findLeft_18 : decode cX9_findLeft 18 = .ok (.iload_n 3, 1) := by decide +kernel
theorem dX9_findLeft_19 : decode cX9_findLeft 19 = .ok (.iconst (-1), 1) := by decide +kernel
theorem dX9_findLeft_20 : decode cX9_findLeft 20 = .ok (.if_icmp .ne 7, 3) := by decide +kernel
theorem dX9_findLeft_23 : decode cX9_findLeft 23 = .ok (.iconst (-1), 1) := by decide +kernel
theorem dX9_findLeft_24 : decode cX9_findLeft 24 = .ok (.goto 9, 3) := by decide +kernel
theorem dX9_findLeft_27 : decode cX9_findLeft 27 = .ok (.aload_n 0, 1) := by decide +kernel
theorem dX9_findLeft_28 : decode cX9_findLeft 28 = .ok (.iload_n 3, 1) := by decide +kernel
theorem dX9_findLeft_29 : decode cX9_findLeft 29 = .ok (.iload_n 2, 1) := by decide +kernel
theorem dX9_findLeft_30 : decode cX9_findLeft 30 = .ok (.invokevirtual 99, 3) := by decide +kernel
theorem dX9_findLeft_33 : decode cX9_findLeft 33 = .ok (.istore 4, 2) := by decide +kernel
theorem dX9_findLeft_35 : decode cX9_findLeft 35 = .ok (.aload_n 0, 1) := by decide +kernel
theorem dX9_findLeft_36 : decode cX9_findLeft 36 = .ok (.iload 4, 2) := by decide +kernel
theorem dX9_findLeft_38 : decode cX9_findLeft 38 = .ok (.iload_n 1, 1) := by decide +kernel
theorem dX9_findLeft_39 : decode cX9_findLeft 39 = .ok (.if_icmp .le 7, 3) := by decide +kernel
theorem dX9_findLeft_42 : decode cX9_findLeft 42 = .ok (.iload_n 2, 1) := by decide +kernel
theorem dX9_findLeft_43 : decode cX9_findLeft 43 = .ok (.goto 7, 3) := by decide +kernel
theorem dX9_findLeft_46 : decode cX9_findLeft 46 = .ok (.aload_n 0, 1) := by decide +kernel
theorem dX9_findLeft_47 : decode cX9_findLeft 47 = .ok (.getfield 132, 3) := by decide +kernel
theorem dX9_findLeft_50 : decode cX9_findLeft 50 = .ok (.putfield 132, 3) := by decide +kernel
theorem dX9_findLeft_53 : decode cX9_findLeft 53 = .ok (.iload 4, 2) := by decide +kernel
theorem dX9_findLeft_55 : decode cX9_findLeft 55 = .ok (.iload_n 1, 1) := by decide +kernel
theorem dX9_findLeft_56 : decode cX9_findLeft 56 = .ok (.if_icmp .le 8, 3) := by decide +kernel
theorem dX9_findLeft_59 : decode cX9_findLeft 59 = .ok (.iload 4, 2) := by decide +kernel
theorem dX9_findLeft_61 : decode cX9_findLeft 61 = .ok (.goto 4, 3) := by decide +kernel
theorem dX9_findLeft_64 : decode cX9_findLeft 64 = .ok (.iload_n 1, 1) := by decide +kernel
theorem dX9_findLeft_65 : decode cX9_findLeft 65 = .ok (.istore_n 1, 1) := by decide +kernel
theorem dX9_findLeft_66 : decode cX9_findLeft 66 = .ok (.iinc 2 1, 3) := by decide +kernel
theorem dX9_findLeft_69 : decode cX9_findLeft 69 = .ok (.goto (-65), 3) := by decide +kernel
theorem dX9_findLeft_72 : decode cX9_findLeft 72 = .ok (.iload_n 1, 1) := by decide +kernel
theorem dX9_findLeft_73 : decode cX9_findLeft 73 = .ok (.ireturn, 1) := by decide +kernel
set_option maxRecDepth 20000 in
theorem ggX9_left_X9_in : GoodIn wsX9_left wsX9_in := goodIn_r _ [5] (by decide +kernel) (by decide +kernel)
set_option maxRecDepth 20000 in
theorem gX9_left_X9_in : GoodIn wsX9_left (va_wsS RX9 39 yX9_in wsX9_in) := goodIn_app (goodIn_of _ (by decide +kernel)) ggX9_left_X9_in
set_option maxRecDepth 20000 in
theorem ggX9_left_X9_refuse : GoodIn wsX9_left wsX9_refuse := goodIn_r _ [9, 10, 27, 28, 29, 30, 31, 32, 33, 34, 35, 36, 37, 38, 39, 40, 41, 42, 43, 44, 45, 46, 47, 48] (by decide +kernel) (by decide +kernel)
set_option maxRecDepth 20000 in
theorem gX9_left_X9_refuse : GoodIn wsX9_left (wsV RX9 55 RX9 yX9_refuse wsX9_refuse) := goodIn_app (goodIn_of _ (by decide +kernel)) ggX9_left_X9_refuse
set_option maxRecDepth 20000 in
theorem ggX9_left_X9_findLeft : GoodIn wsX9_left wsX9_findLeft := goodIn_r _ [14, 15, 1, 16, 17, 18, 4, 19, 20, 21, 22, 23, 24, 25, 26, 27, 28, 29, 30, 31, 32, 33, 34, 35, 36, 37, 38, 39, 40, 41, 42, 43, 44, 45, 46, 47, 48] (by decide +kernel) (by decide +kernel)
set_option maxRecDepth 20000 in
theorem gX9_left_X9_findLeft : GoodIn wsX9_left (wsV RX9 135 RX9 yX9_findLeft wsX9_findLeft) := goodIn_app (goodIn_of _ (by decide +kernel)) ggX9_left_X9_findLeft
theorem dX9_left_0 : decode cX9_left 0 = .ok (.iload_n 1, 1) := by decide +kernel
theorem dX9_left_1 : decode cX9_left 1 = .ok (.i2l, 1) := by decide +kernel
theorem dX9_left_2 : decode cX9_left 2 = .ok (.lconst 0, 1) := by decide +kernel
theorem dX9_left_3 : decode cX9_left 3 = .ok (.lconst 1, 1) := by decide +kernel
theorem dX9_left_4 : decode cX9_left 4 = .ok (.invokestatic 39, 3) := by decide +kernel
theorem dX9_left_7 : decode cX9_left 7 = .ok (.ifCond .ne 8, 3) := by decide +kernel
theorem dX9_left_10 : decode cX9_left 10 = .ok (.aload_n 0, 1) := by decide +kernel
theorem dX9_left_11 : decode cX9_left 11 = .ok (.invokevirtual 55, 3) := by decide +kernel
theorem dX9_left_14 : decode cX9_left 14 = .ok (.ireturn, 1) := by decide +kernel
theorem dX9_left_15 : decode cX9_left 15 = .ok (.aload_n 0, 1) := by decide +kernel
theorem dX9_left_16 : decode cX9_left 16 = .ok (.invokevirtual 135, 3) := by decide +kernel
theorem dX9_left_19 : decode cX9_left 19 = .ok (.istore_n 2, 1) := by decide +kernel
theorem dX9_left_20 : decode cX9_left 20 = .ok (.iload_n 1, 1) := by decide +kernel
theorem dX9_left_21 : decode cX9_left 21 = .ok (.ifCond .eq 8, 3) := by decide +kernel
theorem dX9_left_24 : decode cX9_left 24 = .ok (.iload_n 2, 1) := by decide +kernel
theorem dX9_left_25 : decode cX9_left 25 = .ok (.iconst (-1), 1) := by decide +kernel
theorem dX9_left_26 : decode cX9_left 26 = .ok (.if_icmp .ne 7, 3) := by decide +kernel
theorem dX9_left_29 : decode cX9_left 29 = .ok (.iload_n 2, 1) := by decide +kernel
theorem dX9_left_30 : decode cX9_left 30 = .ok (.goto 7, 3) := by decide +kernel
theorem dX9_left_33 : decode cX9_left 33 = .ok (.aload_n 0, 1) := by decide +kernel
theorem dX9_left_34 : decode cX9_left 34 = .ok (.getfield 132, 3) := by decide +kernel
theorem dX9_left_37 : decode cX9_left 37 = .ok (.ireturn, 1) := by decide +kernel
set_option maxRecDepth 20000 in
theorem ggX9_more_X9_in : GoodIn wsX9_more wsX9_in := goodIn_r _ [6] (by decide +kernel) (by decide +kernel)
set_option maxRecDepth 20000 in
theorem gX9_more_X9_in : GoodIn wsX9_more (va_wsS RX9 39 yX9_in wsX9_in) := goodIn_app (goodIn_of _ (by decide +kernel)) ggX9_more_X9_in
set_option maxRecDepth 20000 in
theorem ggX9_more_X9_refuse : GoodIn wsX9_more wsX9_refuse := goodIn_r _ [10, 11, 27, 28, 29, 30, 31, 32, 33, 34, 35, 36, 37, 38, 39, 40, 41, 42, 43, 44, 45, 46, 47, 48] (by decide +kernel) (by decide +kernel)
set_option maxRecDepth 20000 in
theorem gX9_more_X9_refuse : GoodIn wsX9_more (wsV RX9 55 RX9 yX9_refuse wsX9_refuse) := goodIn_app (goodIn_of _ (by decide +kernel)) ggX9_more_X9_refuse
set_option maxRecDepth 20000 in
theorem ggX9_more_X9_findLeft : GoodIn wsX9_more wsX9_findLeft := goodIn_r _ [15, 1, 16, 17, 18, 19, 5, 20, 2, 21, 22, 23, 24, 25, 26, 27, 28, 29, 30, 31, 32, 33, 34, 35, 36, 37, 38, 39, 40, 41, 42, 43, 44, 45, 46, 47, 48] (by decide +kernel) (by decide +kernel)
set_option maxRecDepth 20000 in
theorem gX9_more_X9_findLeft : GoodIn wsX9_more (wsV RX9 135 RX9 yX9_findLeft wsX9_findLeft) := goodIn_app (goodIn_of _ (by decide +kernel)) ggX9_more_X9_findLeft
theorem dX9_more_0 : decode cX9_more 0 = .ok (.iload_n 1, 1) := by decide +kernel
theorem dX9_more_1 : decode cX9_more 1 = .ok (.i2l, 1) := by decide +kernel
theorem dX9_more_2 : decode cX9_more 2 = .ok (.lconst 0, 1) := by decide +kernel
theorem dX9_more_3 : decode cX9_more 3 = .ok (.lconst 1, 1) := by decide +kernel
theorem dX9_more_4 : decode cX9_more 4 = .ok (.invokestatic 39, 3) := by decide +kernel
theorem dX9_more_7 : decode cX9_more 7 = .ok (.ifCond .ne 8, 3) := by decide +kernel
theorem dX9_more_10 : decode cX9_more 10 = .ok (.aload_n 0, 1) := by decide +kernel
theorem dX9_more_11 : decode cX9_more 11 = .ok (.invokevirtual 55, 3) := by decide +kernel
theorem dX9_more_14 : decode cX9_more 14 = .ok (.ireturn, 1) := by decide +kernel
theorem dX9_more_15 : decode cX9_more 15 = .ok (.iconst (-1), 1) := by decide +kernel
theorem dX9_more_16 : decode cX9_more 16 = .ok (.istore_n 2, 1) := by decide +kernel
theorem dX9_more_17 : decode cX9_more 17 = .ok (.iconst (-1), 1) := by decide +kernel
theorem dX9_more_18 : decode cX9_more 18 = .ok (.istore_n 3, 1) := by decide +kernel
theorem dX9_more_19 : decode cX9_more 19 = .ok (.iconst 0, 1) := by decide +kernel
theorem dX9_more_20 : decode cX9_more 20 = .ok (.istore 4, 2) := by decide +kernel
theorem dX9_more_22 : decode cX9_more 22 = .ok (.iload 4, 2) := by decide +kernel
theorem dX9_more_24 : decode cX9_more 24 = .ok (.aload_n 0, 1) := by decide +kernel
theorem dX9_more_25 : decode cX9_more 25 = .ok (.getfield 35, 3) := by decide +kernel
theorem dX9_more_28 : decode cX9_more 28 = .ok (.if_icmp .ge 77, 3) := by decide +kernel
theorem dX9_more_31 : decode cX9_more 31 = .ok (.aload_n 0, 1) := by decide +kernel
theorem dX9_more_32 : decode cX9_more 32 = .ok (.getfield 16, 3) := by decide +kernel
theorem dX9_more_35 : decode cX9_more 35 = .ok (.iload 4, 2) := by decide +kernel
theorem dX9_more_37 : decode cX9_more 37 = .ok (.baload, 1) := by decide +kernel
theorem dX9_more_38 : decode cX9_more 38 = .ok (.ifCond .ne 61, 3) := by decide +kernel
theorem dX9_more_41 : decode cX9_more 41 = .ok (.aload_n 0, 1) := by decide +kernel
theorem dX9_more_42 : decode cX9_more 42 = .ok (.getfield 16, 3) := by decide +kernel
theorem dX9_more_45 : decode cX9_more 45 = .ok (.iload 4, 2) := by decide +kernel
theorem dX9_more_47 : decode cX9_more 47 = .ok (.iconst 1, 1) := by decide +kernel
theorem dX9_more_48 : decode cX9_more 48 = .ok (.bastore, 1) := by decide +kernel
theorem dX9_more_49 : decode cX9_more 49 = .ok (.aload_n 0, 1) := by decide +kernel
theorem dX9_more_50 : decode cX9_more 50 = .ok (.invokevirtual 135, 3) := by decide +kernel
theorem dX9_more_53 : decode cX9_more 53 = .ok (.istore 5, 2) := by decide +kernel
theorem dX9_more_55 : decode cX9_more 55 = .ok (.aload_n 0, 1) := by decide +kernel
theorem dX9_more_56 : decode cX9_more 56 = .ok (.getfield 16, 3) := by decide +kernel
theorem dX9_more_59 : decode cX9_more 59 = .ok (.iload 4, 2) := by decide +kernel
theorem dX9_more_61 : decode cX9_more 61 = .ok (.iconst 0, 1) := by decide +kernel
theorem dX9_more_62 : decode cX9_more 62 = .ok (.bastore, 1) := by decide +kernel
theorem dX9_more_63 : decode cX9_more 63 = .ok (.iload_n 3, 1) := by decide +kernel
theorem dX9_more_64 : decode cX9_more 64 = .ok (.iconst (-1), 1) := by decide +kernel
theorem dX9_more_65 : decode cX9_more 65 = .ok (.if_icmp .eq 9, 3) := by decide +kernel
theorem dX9_more_68 : decode cX9_more 68 = .ok (.iload 5, 2) := by decide +kernel
theorem dX9_more_70 : decode cX9_more 70 = .ok (.iload_n 3, 1) := by decide +kernel
theorem dX9_more_71 : decode cX9_more 71 = .ok (.if_icmp .ge 8, 3) := by decide +kernel
theorem dX9_more_74 : decode cX9_more 74 = .ok (.iload 4, 2) := by decide +kernel
theorem dX9_more_76 : decode cX9_more 76 = .ok (.goto 4, 3) := by decide +kernel
theorem dX9_more_79 : decode cX9_more 79 = .ok (.iload_n 2, 1) := by decide +kernel
theorem dX9_more_80 : decode cX9_more 80 = .ok (.istore_n 2, 1) := by decide +kernel
theorem dX9_more_81 : decode cX9_more 81 = .ok (.iload_n 3, 1) := by decide +kernel
theorem dX9_more_82 : decode cX9_more 82 = .ok (.iconst (-1), 1) := by decide +kernel
theorem dX9_more_83 : decode cX9_more 83 = .ok (.if_icmp .eq 9, 3) := by decide +kernel
theorem dX9_more_86 : decode cX9_more 86 = .ok (.iload 5, 2) := by decide +kernel
theorem dX9_more_88 : decode cX9_more 88 = .ok (.iload_n 3, 1) := by decide +kernel
theorem dX9_more_89 : decode cX9_more 89 = .ok (.if_icmp .ge 8, 3) := by decide +kernel
theorem dX9_more_92 : decode cX9_more 92 = .ok (.iload 5, 2) := by decide +kernel
theorem dX9_more_94 : decode cX9_more 94 = .ok (.goto 4, 3) := by decide +kernel
theorem dX9_more_97 : decode cX9_more 97 = .ok (.iload_n 3, 1) := by decide +kernel
theorem dX9_more_98 : decode cX9_more 98 = .ok (.istore_n 3, 1) := by decide +kernel
theorem dX9_more_99 : decode cX9_more 99 = .ok (.iinc 4 1, 3) := by decide +kernel
theorem dX9_more_102 : decode cX9_more 102 = .ok (.goto (-80), 3) := by decide +kernel
theorem dX9_more_105 : decode cX9_more 105 = .ok (.iload_n 1, 1) := by decide +kernel
theorem dX9_more_106 : decode cX9_more 106 = .ok (.ifCond .ne 7, 3) := by decide +kernel
theorem dX9_more_109 : decode cX9_more 109 = .ok (.iload_n 2, 1) := by decide +kernel
theorem dX9_more_110 : decode cX9_more 110 = .ok (.goto 4, 3) := by decide +kernel
theorem dX9_more_113 : decode cX9_more 113 = .ok (.iload_n 3, 1) := by decide +kernel
theorem dX9_more_114 : decode cX9_more 114 = .ok (.ireturn, 1) := by decide +kernel
set_option maxRecDepth 20000 in
theorem ggX9_serves_X9_isVillage : GoodIn wsX9_serves wsX9_isVillage := goodIn_r _ [7, 2, 8, 9, 6, 10, 26, 27, 28, 29, 30, 31, 32, 33, 34, 35, 36, 37, 38, 39, 40, 41, 42, 43, 44, 45, 46, 47] (by decide +kernel) (by decide +kernel)
set_option maxRecDepth 20000 in
theorem gX9_serves_X9_isVillage : GoodIn wsX9_serves (wsV RX9 49 RX9 yX9_isVillage wsX9_isVillage) := goodIn_app (goodIn_of _ (by decide +kernel)) ggX9_serves_X9_isVillage
set_option maxRecDepth 20000 in
theorem ggX9_serves_X9_refuse : GoodIn wsX9_serves wsX9_refuse := goodIn_r _ [14, 15, 26, 27, 28, 29, 30, 31, 32, 33, 34, 35, 36, 37, 38, 39, 40, 41, 42, 43, 44, 45, 46, 47] (by decide +kernel) (by decide +kernel)
set_option maxRecDepth 20000 in
theorem gX9_serves_X9_refuse : GoodIn wsX9_serves (wsV RX9 55 RX9 yX9_refuse wsX9_refuse) := goodIn_app (goodIn_of _ (by decide +kernel)) ggX9_serves_X9_refuse
set_option maxRecDepth 20000 in
theorem ggX9_serves_X9_nearestOf : GoodIn wsX9_serves wsX9_nearestOf := goodIn_r _ [19, 2, 1, 20, 21, 22, 6, 23, 24, 25, 26, 27, 28, 29, 30, 31, 32, 33, 34, 35, 36, 37, 38, 39, 40, 41, 42, 43, 44, 45, 46, 47] (by decide +kernel) (by decide +kernel)
set_option maxRecDepth 20000 in
theorem gX9_serves_X9_nearestOf : GoodIn wsX9_serves (wsV RX9 121 RX9 yX9_nearestOf wsX9_nearestOf) := goodIn_app (goodIn_of _ (by decide +kernel)) ggX9_serves_X9_nearestOf
theorem dX9_serves_0 : decode cX9_serves 0 = .ok (.aload_n 0, 1) := by decide +kernel
theorem dX9_serves_1 : decode cX9_serves 1 = .ok (.iload_n 1, 1) := by decide +kernel
theorem dX9_serves_2 : decode cX9_serves 2 = .ok (.invokevirtual 49, 3) := by decide +kernel
theorem dX9_serves_5 : decode cX9_serves 5 = .ok (.ifCond .ne 8, 3) := by decide +kernel
theorem dX9_serves_8 : decode cX9_serves 8 = .ok (.aload_n 0, 1) := by decide +kernel
theorem dX9_serves_9 : decode cX9_serves 9 = .ok (.invokevirtual 55, 3) := by decide +kernel
theorem dX9_serves_12 : decode cX9_serves 12 = .ok (.ireturn, 1) := by decide +kernel
theorem dX9_serves_13 : decode cX9_serves 13 = .ok (.aload_n 0, 1) := by decide +kernel
theorem dX9_serves_14 : decode cX9_serves 14 = .ok (.getfield 16, 3) := by decide +kernel
theorem dX9_serves_17 : decode cX9_serves 17 = .ok (.iload_n 1, 1) := by decide +kernel
theorem dX9_serves_18 : decode cX9_serves 18 = .ok (.baload, 1) := by decide +kernel
theorem dX9_serves_19 : decode cX9_serves 19 = .ok (.istore_n 2, 1) := by decide +kernel
theorem dX9_serves_20 : decode cX9_serves 20 = .ok (.iconst 0, 1) := by decide +kernel
theorem dX9_serves_21 : decode cX9_serves 21 = .ok (.istore_n 3, 1) := by decide +kernel
theorem dX9_serves_22 : decode cX9_serves 22 = .ok (.aload_n 0, 1) := by decide +kernel
theorem dX9_serves_23 : decode cX9_serves 23 = .ok (.getfield 16, 3) := by decide +kernel
theorem dX9_serves_26 : decode cX9_serves 26 = .ok (.iload_n 1, 1) := by decide +kernel
theorem dX9_serves_27 : decode cX9_serves 27 = .ok (.iconst 1, 1) := by decide +kernel
theorem dX9_serves_28 : decode cX9_serves 28 = .ok (.bastore, 1) := by decide +kernel
theorem dX9_serves_29 : decode cX9_serves 29 = .ok (.iconst 0, 1) := by decide +kernel
theorem dX9_serves_30 : decode cX9_serves 30 = .ok (.istore 4, 2) := by decide +kernel
theorem dX9_serves_32 : decode cX9_serves 32 = .ok (.iload 4, 2) := by decide +kernel
theorem dX9_serves_34 : decode cX9_serves 34 = .ok (.aload_n 0, 1) := by decide +kernel
theorem dX9_serves_35 : decode cX9_serves 35 = .ok (.getfield 35, 3) := by decide +kernel
theorem dX9_serves_38 : decode cX9_serves 38 = .ok (.if_icmp .ge 27, 3) := by decide +kernel
theorem dX9_serves_41 : decode cX9_serves 41 = .ok (.iload_n 3, 1) := by decide +kernel
theorem dX9_serves_42 : decode cX9_serves 42 = .ok (.aload_n 0, 1) := by decide +kernel
theorem dX9_serves_43 : decode cX9_serves 43 = .ok (.iload 4, 2) := by decide +kernel
theorem dX9_serves_45 : decode cX9_serves 45 = .ok (.invokevirtual 121, 3) := by decide +kernel
theorem dX9_serves_48 : decode cX9_serves 48 = .ok (.iload_n 1, 1) := by decide +kernel
theorem dX9_serves_49 : decode cX9_serves 49 = .ok (.if_icmp .ne 7, 3) := by decide +kernel
theorem dX9_serves_52 : decode cX9_serves 52 = .ok (.iconst 1, 1) := by decide +kernel
theorem dX9_serves_53 : decode cX9_serves 53 = .ok (.goto 4, 3) := by decide +kernel
theorem dX9_serves_56 : decode cX9_serves 56 = .ok (.iconst 0, 1) := by decide +kernel
theorem dX9_serves_57 : decode cX9_serves 57 = .ok (.iadd, 1) := by decide +kernel
theorem dX9_serves_58 : decode cX9_serves 58 = .ok (.istore_n 3, 1) := by decide +kernel
theorem dX9_serves_59 : decode cX9_serves 59 = .ok (.iinc 4 1, 3) := by decide +kernel
theorem dX9_serves_62 : decode cX9_serves 62 = .ok (.goto (-30), 3) := by decide +kernel
theorem dX9_serves_65 : decode cX9_serves 65 = .ok (.aload_n 0, 1) := by decide +kernel
theorem dX9_serves_66 : decode cX9_serves 66 = .ok (.getfield 16, 3) := by decide +kernel
theorem dX9_serves_69 : decode cX9_serves 69 = .ok (.iload_n 1, 1) := by decide +kernel
theorem dX9_serves_70 : decode cX9_serves 70 = .ok (.iload_n 2, 1) := by decide +kernel
theorem dX9_serves_71 : decode cX9_serves 71 = .ok (.bastore, 1) := by decide +kernel
theorem dX9_serves_72 : decode cX9_serves 72 = .ok (.iload_n 3, 1) := by decide +kernel
theorem dX9_serves_73 : decode cX9_serves 73 = .ok (.ireturn, 1) := by decide +kernel
set_option maxRecDepth 20000 in
theorem ggX9_pair_X9_in : GoodIn wsX9_pair wsX9_in := goodIn_r _ [7] (by decide +kernel) (by decide +kernel)
set_option maxRecDepth 20000 in
theorem gX9_pair_X9_in : GoodIn wsX9_pair (va_wsS RX9 39 yX9_in wsX9_in) := goodIn_app (goodIn_of _ (by decide +kernel)) ggX9_pair_X9_in
set_option maxRecDepth 20000 in
theorem ggX9_pair_X9_refuse : GoodIn wsX9_pair wsX9_refuse := goodIn_r _ [11, 12, 19, 20, 21, 22, 23, 24, 25, 26, 27, 28, 29, 30, 31, 32, 33, 34, 35, 36, 37, 38, 39, 40] (by decide +kernel) (by decide +kernel)
set_option maxRecDepth 20000 in
theorem gX9_pair_X9_refuse : GoodIn wsX9_pair (wsV RX9 55 RX9 yX9_refuse wsX9_refuse) := goodIn_app (goodIn_of _ (by decide +kernel)) ggX9_pair_X9_refuse
set_option maxRecDepth 20000 in
theorem ggX9_pair_X9_farFrom : GoodIn wsX9_pair wsX9_farFrom := goodIn_r _ [16, 17, 18, 19, 20, 21, 22, 23, 24, 25, 26, 27, 28, 29, 30, 31, 32, 33, 34, 35, 36, 37, 38, 39, 40] (by decide +kernel) (by decide +kernel)
set_option maxRecDepth 20000 in
theorem gX9_pair_X9_farFrom : GoodIn wsX9_pair (wsV RX9 99 RX9 yX9_farFrom wsX9_farFrom) := goodIn_app (goodIn_of _ (by decide +kernel)) ggX9_pair_X9_farFrom
theorem dX9_pair_0 : decode cX9_pair 0 = .ok (.iload_n 1, 1) := by decide +kernel
theorem dX9_pair_1 : decode cX9_pair 1 = .ok (.i2l, 1) := by decide +kernel
theorem dX9_pair_2 : decode cX9_pair 2 = .ok (.lconst 0, 1) := by decide +kernel
theorem dX9_pair_3 : decode cX9_pair 3 = .ok (.ldc2_w 109, 3) := by decide +kernel
theorem dX9_pair_6 : decode cX9_pair 6 = .ok (.invokestatic 39, 3) := by decide +kernel
theorem dX9_pair_9 : decode cX9_pair 9 = .ok (.ifCond .ne 8, 3) := by decide +kernel
theorem dX9_pair_12 : decode cX9_pair 12 = .ok (.aload_n 0, 1) := by decide +kernel
theorem dX9_pair_13 : decode cX9_pair 13 = .ok (.invokevirtual 55, 3) := by decide +kernel
theorem dX9_pair_16 : decode cX9_pair 16 = .ok (.ireturn, 1) := by decide +kernel
theorem dX9_pair_17 : decode cX9_pair 17 = .ok (.iconst (-1), 1) := by decide +kernel
theorem dX9_pair_18 : decode cX9_pair 18 = .ok (.istore_n 2, 1) := by decide +kernel
theorem dX9_pair_19 : decode cX9_pair 19 = .ok (.iconst (-1), 1) := by decide +kernel
theorem dX9_pair_20 : decode cX9_pair 20 = .ok (.istore_n 3, 1) := by decide +kernel
theorem dX9_pair_21 : decode cX9_pair 21 = .ok (.iconst (-1), 1) := by decide +kernel
theorem dX9_pair_22 : decode cX9_pair 22 = .ok (.istore 4, 2) := by decide +kernel
theorem dX9_pair_24 : decode cX9_pair 24 = .ok (.iconst 0, 1) := by decide +kernel
theorem dX9_pair_25 : decode cX9_pair 25 = .ok (.istore 5, 2) := by decide +kernel
theorem dX9_pair_27 : decode cX9_pair 27 = .ok (.iload 5, 2) := by decide +kernel
theorem dX9_pair_29 : decode cX9_pair 29 = .ok (.aload_n 0, 1) := by decide +kernel
theorem dX9_pair_30 : decode cX9_pair 30 = .ok (.getfield 35, 3) := by decide +kernel
theorem dX9_pair_33 : decode cX9_pair 33 = .ok (.if_icmp .ge 85, 3) := by decide +kernel
theorem dX9_pair_36 : decode cX9_pair 36 = .ok (.iload 5, 2) := by decide +kernel
theorem dX9_pair_38 : decode cX9_pair 38 = .ok (.iconst 1, 1) := by decide +kernel
theorem dX9_pair_39 : decode cX9_pair 39 = .ok (.iadd, 1) := by decide +kernel
theorem dX9_pair_40 : decode cX9_pair 40 = .ok (.istore 6, 2) := by decide +kernel
theorem dX9_pair_42 : decode cX9_pair 42 = .ok (.iload 6, 2) := by decide +kernel
theorem dX9_pair_44 : decode cX9_pair 44 = .ok (.aload_n 0, 1) := by decide +kernel
theorem dX9_pair_45 : decode cX9_pair 45 = .ok (.getfield 35, 3) := by decide +kernel
theorem dX9_pair_48 : decode cX9_pair 48 = .ok (.if_icmp .ge 64, 3) := by decide +kernel
theorem dX9_pair_51 : decode cX9_pair 51 = .ok (.aload_n 0, 1) := by decide +kernel
theorem dX9_pair_52 : decode cX9_pair 52 = .ok (.getfield 16, 3) := by decide +kernel
theorem dX9_pair_55 : decode cX9_pair 55 = .ok (.iload 5, 2) := by decide +kernel
theorem dX9_pair_57 : decode cX9_pair 57 = .ok (.baload, 1) := by decide +kernel
theorem dX9_pair_58 : decode cX9_pair 58 = .ok (.ifCond .eq 48, 3) := by decide +kernel
theorem dX9_pair_61 : decode cX9_pair 61 = .ok (.aload_n 0, 1) := by decide +kernel
theorem dX9_pair_62 : decode cX9_pair 62 = .ok (.getfield 16, 3) := by decide +kernel
theorem dX9_pair_65 : decode cX9_pair 65 = .ok (.iload 6, 2) := by decide +kernel
theorem dX9_pair_67 : decode cX9_pair 67 = .ok (.baload, 1) := by decide +kernel
theorem dX9_pair_68 : decode cX9_pair 68 = .ok (.ifCond .eq 38, 3) := by decide +kernel
theorem dX9_pair_71 : decode cX9_pair 71 = .ok (.iload 4, 2) := by decide +kernel
theorem dX9_pair_73 : decode cX9_pair 73 = .ok (.iconst (-1), 1) := by decide +kernel
theorem dX9_pair_74 : decode cX9_pair 74 = .ok (.if_icmp .eq 16, 3) := by decide +kernel
theorem dX9_pair_77 : decode cX9_pair 77 = .ok (.aload_n 0, 1) := by decide +kernel
theorem dX9_pair_78 : decode cX9_pair 78 = .ok (.iload 5, 2) := by decide +kernel
theorem dX9_pair_80 : decode cX9_pair 80 = .ok (.iload 6, 2) := by decide +kernel
theorem dX9_pair_82 : decode cX9_pair 82 = .ok (.invokevirtual 99, 3) := by decide +kernel
theorem dX9_pair_85 : decode cX9_pair 85 = .ok (.iload 4, 2) := by decide +kernel
theorem dX9_pair_87 : decode cX9_pair 87 = .ok (.if_icmp .ge 19, 3) := by decide +kernel
theorem dX9_pair_90 : decode cX9_pair 90 = .ok (.aload_n 0, 1) := by decide +kernel
theorem dX9_pair_91 : decode cX9_pair 91 = .ok (.iload 5, 2) := by decide +kernel
theorem dX9_pair_93 : decode cX9_pair 93 = .ok (.iload 6, 2) := by decide +kernel
theorem dX9_pair_95 : decode cX9_pair 95 = .ok (.invokevirtual 99, 3) := by decide +kernel
theorem dX9_pair_98 : decode cX9_pair 98 = .ok (.istore 4, 2) := by decide +kernel
theorem dX9_pair_100 : decode cX9_pair 100 = .ok (.iload 5, 2) := by decide +kernel
theorem dX9_pair_102 : decode cX9_pair 102 = .ok (.istore_n 2, 1) := by decide +kernel
theorem dX9_pair_103 : decode cX9_pair 103 = .ok (.iload 6, 2) := by decide +kernel
theorem dX9_pair_105 : decode cX9_pair 105 = .ok (.istore_n 3, 1) := by decide +kernel
theorem dX9_pair_106 : decode cX9_pair 106 = .ok (.iinc 6 1, 3) := by decide +kernel
theorem dX9_pair_109 : decode cX9_pair 109 = .ok (.goto (-67), 3) := by decide +kernel
theorem dX9_pair_112 : decode cX9_pair 112 = .ok (.iinc 5 1, 3) := by decide +kernel
theorem dX9_pair_115 : decode cX9_pair 115 = .ok (.goto (-88), 3) := by decide +kernel
theorem dX9_pair_118 : decode cX9_pair 118 = .ok (.iload_n 1, 1) := by decide +kernel
theorem dX9_pair_119 : decode cX9_pair 119 = .ok (.ifCond .ne 8, 3) := by decide +kernel
theorem dX9_pair_122 : decode cX9_pair 122 = .ok (.iload 4, 2) := by decide +kernel
theorem dX9_pair_124 : decode cX9_pair 124 = .ok (.goto 13, 3) := by decide +kernel
theorem dX9_pair_127 : decode cX9_pair 127 = .ok (.iload_n 1, 1) := by decide +kernel
theorem dX9_pair_128 : decode cX9_pair 128 = .ok (.iconst 1, 1) := by decide +kernel
theorem dX9_pair_129 : decode cX9_pair 129 = .ok (.if_icmp .ne 7, 3) := by decide +kernel
theorem dX9_pair_132 : decode cX9_pair 132 = .ok (.iload_n 2, 1) := by decide +kernel
theorem dX9_pair_133 : decode cX9_pair 133 = .ok (.goto 4, 3) := by decide +kernel
theorem dX9_pair_136 : decode cX9_pair 136 = .ok (.iload_n 3, 1) := by decide +kernel
theorem dX9_pair_137 : decode cX9_pair 137 = .ok (.ireturn, 1) := by decide +kernel
set_option maxRecDepth 20000 in
theorem ggX9_type_X9_in : GoodIn wsX9_type wsX9_in := goodIn_r _ [7] (by decide +kernel) (by decide +kernel)
set_option maxRecDepth 20000 in
theorem gX9_type_X9_in : GoodIn wsX9_type (va_wsS RX9 39 yX9_in wsX9_in) := goodIn_app (goodIn_of _ (by decide +kernel)) ggX9_type_X9_in
set_option maxRecDepth 20000 in
theorem ggX9_type_X9_refuse : GoodIn wsX9_type wsX9_refuse := goodIn_r _ [11, 12, 18, 19, 20, 21, 22, 23, 24, 25, 26, 27, 28, 29, 30, 31, 32, 33, 34, 35, 36, 37, 38, 39] (by decide +kernel) (by decide +kernel)
set_option maxRecDepth 20000 in
theorem gX9_type_X9_refuse : GoodIn wsX9_type (wsV RX9 55 RX9 yX9_refuse wsX9_refuse) := goodIn_app (goodIn_of _ (by decide +kernel)) ggX9_type_X9_refuse
set_option maxRecDepth 20000 in
theorem ggX9_type_X9_refuseFull : GoodIn wsX9_type wsX9_refuseFull := goodIn_r _ [16, 17, 18, 19, 20, 21, 22, 23, 24, 25, 26, 27, 28, 29, 30, 31, 32, 33, 34, 35, 36, 37, 38, 39] (by decide +kernel) (by decide +kernel)
set_option maxRecDepth 20000 in
theorem gX9_type_X9_refuseFull : GoodIn wsX9_type (wsV RX9 59 RX9 yX9_refuseFull wsX9_refuseFull) := goodIn_app (goodIn_of _ (by decide +kernel)) ggX9_type_X9_refuseFull
theorem dX9_type_0 : decode cX9_type 0 = .ok (.iload_n 1, 1) := by decide +kernel
theorem dX9_type_1 : decode cX9_type 1 = .ok (.i2l, 1) := by decide +kernel
theorem dX9_type_2 : decode cX9_type 2 = .ok (.lconst 0, 1) := by decide +kernel
theorem dX9_type_3 : decode cX9_type 3 = .ok (.ldc2_w 138, 3) := by decide +kernel
theorem dX9_type_6 : decode cX9_type 6 = .ok (.invokestatic 39, 3) := by decide +kernel
theorem dX9_type_9 : decode cX9_type 9 = .ok (.ifCond .ne 8, 3) := by decide +kernel
theorem dX9_type_12 : decode cX9_type 12 = .ok (.aload_n 0, 1) := by decide +kernel
theorem dX9_type_13 : decode cX9_type 13 = .ok (.invokevirtual 55, 3) := by decide +kernel
theorem dX9_type_16 : decode cX9_type 16 = .ok (.ireturn, 1) := by decide +kernel
theorem dX9_type_17 : decode cX9_type 17 = .ok (.aload_n 0, 1) := by decide +kernel
theorem dX9_type_18 : decode cX9_type 18 = .ok (.getfield 140, 3) := by decide +kernel
theorem dX9_type_21 : decode cX9_type 21 = .ok (.bipush 120, 2) := by decide +kernel
theorem dX9_type_23 : decode cX9_type 23 = .ok (.if_icmp .ne 8, 3) := by decide +kernel
theorem dX9_type_26 : decode cX9_type 26 = .ok (.aload_n 0, 1) := by decide +kernel
theorem dX9_type_27 : decode cX9_type 27 = .ok (.invokevirtual 59, 3) := by decide +kernel
theorem dX9_type_30 : decode cX9_type 30 = .ok (.ireturn, 1) := by decide +kernel
theorem dX9_type_31 : decode cX9_type 31 = .ok (.aload_n 0, 1) := by decide +kernel
theorem dX9_type_32 : decode cX9_type 32 = .ok (.getfield 20, 3) := by decide +kernel
theorem dX9_type_35 : decode cX9_type 35 = .ok (.aload_n 0, 1) := by decide +kernel
theorem dX9_type_36 : decode cX9_type 36 = .ok (.getfield 140, 3) := by decide +kernel
theorem dX9_type_39 : decode cX9_type 39 = .ok (.iload_n 1, 1) := by decide +kernel
theorem dX9_type_40 : decode cX9_type 40 = .ok (.iastore, 1) := by decide +kernel
theorem dX9_type_41 : decode cX9_type 41 = .ok (.aload_n 0, 1) := by decide +kernel
theorem dX9_type_42 : decode cX9_type 42 = .ok (.dup, 1) := by decide +kernel
theorem dX9_type_43 : decode cX9_type 43 = .ok (.getfield 140, 3) := by decide +kernel
theorem dX9_type_46 : decode cX9_type 46 = .ok (.iconst 1, 1) := by decide +kernel
theorem dX9_type_47 : decode cX9_type 47 = .ok (.iadd, 1) := by decide +kernel
theorem dX9_type_48 : decode cX9_type 48 = .ok (.putfield 140, 3) := by decide +kernel
theorem dX9_type_51 : decode cX9_type 51 = .ok (.aload_n 0, 1) := by decide +kernel
theorem dX9_type_52 : decode cX9_type 52 = .ok (.getfield 140, 3) := by decide +kernel
theorem dX9_type_55 : decode cX9_type 55 = .ok (.ireturn, 1) := by decide +kernel
theorem dX9_clear_0 : decode cX9_clear 0 = .ok (.aload_n 0, 1) := by decide +kernel
theorem dX9_clear_1 : decode cX9_clear 1 = .ok (.getfield 140, 3) := by decide +kernel
theorem dX9_clear_4 : decode cX9_clear 4 = .ok (.istore_n 1, 1) := by decide +kernel
theorem dX9_clear_5 : decode cX9_clear 5 = .ok (.aload_n 0, 1) := by decide +kernel
theorem dX9_clear_6 : decode cX9_clear 6 = .ok (.iconst 0, 1) := by decide +kernel
theorem dX9_clear_7 : decode cX9_clear 7 = .ok (.putfield 140, 3) := by decide +kernel
theorem dX9_clear_10 : decode cX9_clear 10 = .ok (.iload_n 1, 1) := by decide +kernel
theorem dX9_clear_11 : decode cX9_clear 11 = .ok (.ireturn, 1) := by decide +kernel
set_option maxRecDepth 20000 in
theorem ggX9_isFigure_X9_in : GoodIn wsX9_isFigure wsX9_in := goodIn_r _ [6] (by decide +kernel) (by decide +kernel)
set_option maxRecDepth 20000 in
theorem gX9_isFigure_X9_in : GoodIn wsX9_isFigure (va_wsS RX9 39 yX9_in wsX9_in) := goodIn_app (goodIn_of _ (by decide +kernel)) ggX9_isFigure_X9_in
theorem dX9_isFigure_0 : decode cX9_isFigure 0 = .ok (.iload_n 0, 1) := by decide +kernel
theorem dX9_isFigure_1 : decode cX9_isFigure 1 = .ok (.i2l, 1) := by decide +kernel
theorem dX9_isFigure_2 : decode cX9_isFigure 2 = .ok (.ldc2_w 143, 3) := by decide +kernel
theorem dX9_isFigure_5 : decode cX9_isFigure 5 = .ok (.ldc2_w 145, 3) := by decide +kernel
theorem dX9_isFigure_8 : decode cX9_isFigure 8 = .ok (.invokestatic 39, 3) := by decide +kernel
theorem dX9_isFigure_11 : decode cX9_isFigure 11 = .ok (.ireturn, 1) := by decide +kernel
set_option maxRecDepth 20000 in
theorem ggX9_isLetter_X9_in : GoodIn wsX9_isLetter wsX9_in := goodIn_r _ [6] (by decide +kernel) (by decide +kernel)
set_option maxRecDepth 20000 in
theorem gX9_isLetter_X9_in : GoodIn wsX9_isLetter (va_wsS RX9 39 yX9_in wsX9_in) := goodIn_app (goodIn_of _ (by decide +kernel)) ggX9_isLetter_X9_in
theorem dX9_isLetter_0 : decode cX9_isLetter 0 = .ok (.iload_n 0, 1) := by decide +kernel
theorem dX9_isLetter_1 : decode cX9_isLetter 1 = .ok (.i2l, 1) := by decide +kernel
theorem dX9_isLetter_2 : decode cX9_isLetter 2 = .ok (.ldc2_w 147, 3) := by decide +kernel
theorem dX9_isLetter_5 : decode cX9_isLetter 5 = .ok (.ldc2_w 149, 3) := by decide +kernel
theorem dX9_isLetter_8 : decode cX9_isLetter 8 = .ok (.invokestatic 39, 3) := by decide +kernel
theorem dX9_isLetter_11 : decode cX9_isLetter 11 = .ok (.ireturn, 1) := by decide +kernel
set_option maxRecDepth 20000 in
theorem ggX9_next_X9_isLetter : GoodIn wsX9_next wsX9_isLetter := goodIn_r _ [10, 11, 12, 13, 14, 9, 15] (by decide +kernel) (by decide +kernel)
set_option maxRecDepth 20000 in
theorem gX9_next_X9_isLetter : GoodIn wsX9_next (va_wsS RX9 163 yX9_isLetter wsX9_isLetter) := goodIn_app (goodIn_of _ (by decide +kernel)) ggX9_next_X9_isLetter
set_option maxRecDepth 20000 in
theorem ggX9_next_X9_isFigure : GoodIn wsX9_next wsX9_isFigure := goodIn_r _ [18, 19, 20, 13, 14, 9, 15] (by decide +kernel) (by decide +kernel)
set_option maxRecDepth 20000 in
theorem gX9_next_X9_isFigure : GoodIn wsX9_next (va_wsS RX9 166 yX9_isFigure wsX9_isFigure) := goodIn_app (goodIn_of _ (by decide +kernel)) ggX9_next_X9_isFigure
theorem dX9_next_0 : decode cX9_next 0 = .ok (.aload_n 0, 1) := by decide +kernel
theorem dX9_next_1 : decode cX9_next 1 = .ok (.getfield 151, 3) := by decide +kernel
theorem dX9_next_4 : decode cX9_next 4 = .ok (.aload_n 0, 1) := by decide +kernel
theorem dX9_next_5 : decode cX9_next 5 = .ok (.getfield 140, 3) := by decide +kernel
theorem dX9_next_8 : decode cX9_next 8 = .ok (.if_icmp .ge 30, 3) := by decide +kernel
theorem dX9_next_11 : decode cX9_next 11 = .ok (.aload_n 0, 1) := by decide +kernel
theorem dX9_next_12 : decode cX9_next 12 = .ok (.getfield 20, 3) := by decide +kernel
theorem dX9_next_15 : decode cX9_next 15 = .ok (.aload_n 0, 1) := by decide +kernel
theorem dX9_next_16 : decode cX9_next 16 = .ok (.getfield 151, 3) := by decide +kernel
theorem dX9_next_19 : decode cX9_next 19 = .ok (.iaload, 1) := by decide +kernel
theorem dX9_next_20 : decode cX9_next 20 = .ok (.bipush 32, 2) := by decide +kernel
theorem dX9_next_22 : decode cX9_next 22 = .ok (.if_icmp .ne 16, 3) := by decide +kernel
theorem dX9_next_25 : decode cX9_next 25 = .ok (.aload_n 0, 1) := by decide +kernel
theorem dX9_next_26 : decode cX9_next 26 = .ok (.dup, 1) := by decide +kernel
theorem dX9_next_27 : decode cX9_next 27 = .ok (.getfield 151, 3) := by decide +kernel
theorem dX9_next_30 : decode cX9_next 30 = .ok (.iconst 1, 1) := by decide +kernel
theorem dX9_next_31 : decode cX9_next 31 = .ok (.iadd, 1) := by decide +kernel
theorem dX9_next_32 : decode cX9_next 32 = .ok (.putfield 151, 3) := by decide +kernel
theorem dX9_next_35 : decode cX9_next 35 = .ok (.goto (-35), 3) := by decide +kernel
theorem dX9_next_38 : decode cX9_next 38 = .ok (.aload_n 0, 1) := by decide +kernel
theorem dX9_next_39 : decode cX9_next 39 = .ok (.aload_n 0, 1) := by decide +kernel
theorem dX9_next_40 : decode cX9_next 40 = .ok (.getfield 151, 3) := by decide +kernel
theorem dX9_next_43 : decode cX9_next 43 = .ok (.putfield 154, 3) := by decide +kernel
theorem dX9_next_46 : decode cX9_next 46 = .ok (.aload_n 0, 1) := by decide +kernel
theorem dX9_next_47 : decode cX9_next 47 = .ok (.iconst 0, 1) := by decide +kernel
theorem dX9_next_48 : decode cX9_next 48 = .ok (.putfield 157, 3) := by decide +kernel
theorem dX9_next_51 : decode cX9_next 51 = .ok (.aload_n 0, 1) := by decide +kernel
theorem dX9_next_52 : decode cX9_next 52 = .ok (.getfield 151, 3) := by decide +kernel
theorem dX9_next_55 : decode cX9_next 55 = .ok (.aload_n 0, 1) := by decide +kernel
theorem dX9_next_56 : decode cX9_next 56 = .ok (.getfield 140, 3) := by decide +kernel
theorem dX9_next_59 : decode cX9_next 59 = .ok (.if_icmp .ne 9, 3) := by decide +kernel
theorem dX9_next_62 : decode cX9_next 62 = .ok (.aload_n 0, 1) := by decide +kernel
theorem dX9_next_63 : decode cX9_next 63 = .ok (.iconst 0, 1) := by decide +kernel
theorem dX9_next_64 : decode cX9_next 64 = .ok (.putfield 160, 3) := by decide +kernel
theorem dX9_next_67 : decode cX9_next 67 = .ok (.return_, 1) := by decide +kernel
theorem dX9_next_68 : decode cX9_next 68 = .ok (.aload_n 0, 1) := by decide +kernel
theorem dX9_next_69 : decode cX9_next 69 = .ok (.getfield 20, 3) := by decide +kernel
theorem dX9_next_72 : decode cX9_next 72 = .ok (.aload_n 0, 1) := by decide +kernel
theorem dX9_next_73 : decode cX9_next 73 = .ok (.getfield 151, 3) := by decide +kernel
theorem dX9_next_76 : decode cX9_next 76 = .ok (.iaload, 1) := by decide +kernel
theorem dX9_next_77 : decode cX9_next 77 = .ok (.istore_n 1, 1) := by decide +kernel
theorem dX9_next_78 : decode cX9_next 78 = .ok (.iconst 0, 1) := by decide +kernel
theorem dX9_next_79 : decode cX9_next 79 = .ok (.istore_n 2, 1) := by decide +kernel
theorem dX9_next_80 : decode cX9_next 80 = .ok (.iload_n 1, 1) := by decide +kernel
theorem dX9_next_81 : decode cX9_next 81 = .ok (.invokestatic 163, 3) := by decide +kernel
theorem dX9_next_84 : decode cX9_next 84 = .ok (.ifCond .eq 95, 3) := by decide +kernel
theorem dX9_next_87 : decode cX9_next 87 = .ok (.aload_n 0, 1) := by decide +kernel
theorem dX9_next_88 : decode cX9_next 88 = .ok (.getfield 151, 3) := by decide +kernel
theorem dX9_next_91 : decode cX9_next 91 = .ok (.aload_n 0, 1) := by decide +kernel
theorem dX9_next_92 : decode cX9_next 92 = .ok (.getfield 140, 3) := by decide +kernel
theorem dX9_next_95 : decode cX9_next 95 = .ok (.if_icmp .ge 68, 3) := by decide +kernel
theorem dX9_next_98 : decode cX9_next 98 = .ok (.aload_n 0, 1) := by decide +kernel
theorem dX9_next_99 : decode cX9_next 99 = .ok (.getfield 20, 3) := by decide +kernel
theorem dX9_next_102 : decode cX9_next 102 = .ok (.aload_n 0, 1) := by decide +kernel
theorem dX9_next_103 : decode cX9_next 103 = .ok (.getfield 151, 3) := by decide +kernel
theorem dX9_next_106 : decode cX9_next 106 = .ok (.iaload, 1) := by decide +kernel
theorem dX9_next_107 : decode cX9_next 107 = .ok (.invokestatic 163, 3) := by decide +kernel
theorem dX9_next_110 : decode cX9_next 110 = .ok (.ifCond .eq 53, 3) := by decide +kernel
theorem dX9_next_113 : decode cX9_next 113 = .ok (.aload_n 0, 1) := by decide +kernel
theorem dX9_next_114 : decode cX9_next 114 = .ok (.iload_n 2, 1) := by decide +kernel
theorem dX9_next_115 : decode cX9_next 115 = .ok (.bipush 6, 2) := by decide +kernel
theorem dX9_next_117 : decode cX9_next 117 = .ok (.if_icmp .ge 26, 3) := by decide +kernel
theorem dX9_next_120 : decode cX9_next 120 = .ok (.bipush 32, 2) := by decide +kernel
theorem dX9_next_122 : decode cX9_next 122 = .ok (.aload_n 0, 1) := by decide +kernel
theorem dX9_next_123 : decode cX9_next 123 = .ok (.getfield 157, 3) := by decide +kernel
theorem dX9_next_126 : decode cX9_next 126 = .ok (.imul, 1) := by decide +kernel
theorem dX9_next_127 : decode cX9_next 127 = .ok (.aload_n 0, 1) := by decide +kernel
theorem dX9_next_128 : decode cX9_next 128 = .ok (.getfield 20, 3) := by decide +kernel
theorem dX9_next_131 : decode cX9_next 131 = .ok (.aload_n 0, 1) := by decide +kernel
theorem dX9_next_132 : decode cX9_next 132 = .ok (.getfield 151, 3) := by decide +kernel
theorem dX9_next_135 : decode cX9_next 135 = .ok (.iaload, 1) := by decide +kernel
theorem dX9_next_136 : decode cX9_next 136 = .ok (.iadd, 1) := by decide +kernel
theorem dX9_next_137 : decode cX9_next 137 = .ok (.bipush 96, 2) := by decide +kernel
theorem dX9_next_139 : decode cX9_next 139 = .ok (.isub, 1) := by decide +kernel
theorem dX9_next_140 : decode cX9_next 140 = .ok (.goto 4, 3) := by decide +kernel
theorem dX9_next_143 : decode cX9_next 143 = .ok (.iconst 0, 1) := by decide +kernel
theorem dX9_next_144 : decode cX9_next 144 = .ok (.putfield 157, 3) := by decide +kernel
theorem dX9_next_147 : decode cX9_next 147 = .ok (.iinc 2 1, 3) := by decide +kernel
theorem dX9_next_150 : decode cX9_next 150 = .ok (.aload_n 0, 1) := by decide +kernel
theorem dX9_next_151 : decode cX9_next 151 = .ok (.dup, 1) := by decide +kernel
theorem dX9_next_152 : decode cX9_next 152 = .ok (.getfield 151, 3) := by decide +kernel
theorem dX9_next_155 : decode cX9_next 155 = .ok (.iconst 1, 1) := by decide +kernel
theorem dX9_next_156 : decode cX9_next 156 = .ok (.iadd, 1) := by decide +kernel
theorem dX9_next_157 : decode cX9_next 157 = .ok (.putfield 151, 3) := by decide +kernel
theorem dX9_next_160 : decode cX9_next 160 = .ok (.goto (-73), 3) := by decide +kernel
theorem dX9_next_163 : decode cX9_next 163 = .ok (.aload_n 0, 1) := by decide +kernel
theorem dX9_next_164 : decode cX9_next 164 = .ok (.iload_n 2, 1) := by decide +kernel
theorem dX9_next_165 : decode cX9_next 165 = .ok (.bipush 7, 2) := by decide +kernel
theorem dX9_next_167 : decode cX9_next 167 = .ok (.if_icmp .ge 7, 3) := by decide +kernel
theorem dX9_next_170 : decode cX9_next 170 = .ok (.iconst 1, 1) := by decide +kernel
theorem dX9_next_171 : decode cX9_next 171 = .ok (.goto 4, 3) := by decide +kernel
theorem dX9_next_174 : decode cX9_next 174 = .ok (.iconst 4, 1) := by decide +kernel
theorem dX9_next_175 : decode cX9_next 175 = .ok (.putfield 160, 3) := by decide +kernel
theorem dX9_next_178 : decode cX9_next 178 = .ok (.return_, 1) := by decide +kernel
theorem dX9_next_179 : decode cX9_next 179 = .ok (.iload_n 1, 1) := by decide +kernel
theorem dX9_next_180 : decode cX9_next 180 = .ok (.invokestatic 166, 3) := by decide +kernel
theorem dX9_next_183 : decode cX9_next 183 = .ok (.ifCond .eq 86, 3) := by decide +kernel
theorem dX9_next_186 : decode cX9_next 186 = .ok (.aload_n 0, 1) := by decide +kernel
theorem dX9_next_187 : decode cX9_next 187 = .ok (.getfield 151, 3) := by decide +kernel
theorem dX9_next_190 : decode cX9_next 190 = .ok (.aload_n 0, 1) := by decide +kernel
theorem dX9_next_191 : decode cX9_next 191 = .ok (.getfield 140, 3) := by decide +kernel
theorem dX9_next_194 : decode cX9_next 194 = .ok (.if_icmp .ge 69, 3) := by decide +kernel
theorem dX9_next_197 : decode cX9_next 197 = .ok (.aload_n 0, 1) := by decide +kernel
theorem dX9_next_198 : decode cX9_next 198 = .ok (.getfield 20, 3) := by decide +kernel
theorem dX9_next_201 : decode cX9_next 201 = .ok (.aload_n 0, 1) := by decide +kernel
theorem dX9_next_202 : decode cX9_next 202 = .ok (.getfield 151, 3) := by decide +kernel
theorem dX9_next_205 : decode cX9_next 205 = .ok (.iaload, 1) := by decide +kernel
theorem dX9_next_206 : decode cX9_next 206 = .ok (.invokestatic 166, 3) := by decide +kernel
theorem dX9_next_209 : decode cX9_next 209 = .ok (.ifCond .eq 54, 3) := by decide +kernel
theorem dX9_next_212 : decode cX9_next 212 = .ok (.aload_n 0, 1) := by decide +kernel
theorem dX9_next_213 : decode cX9_next 213 = .ok (.iload_n 2, 1) := by decide +kernel
theorem dX9_next_214 : decode cX9_next 214 = .ok (.iconst 2, 1) := by decide +kernel
theorem dX9_next_215 : decode cX9_next 215 = .ok (.if_icmp .ge 26, 3) := by decide +kernel
theorem dX9_next_218 : decode cX9_next 218 = .ok (.bipush 10, 2) := by decide +kernel
theorem dX9_next_220 : decode cX9_next 220 = .ok (.aload_n 0, 1) := by decide +kernel
theorem dX9_next_221 : decode cX9_next 221 = .ok (.getfield 157, 3) := by decide +kernel
theorem dX9_next_224 : decode cX9_next 224 = .ok (.imul, 1) := by decide +kernel
theorem dX9_next_225 : decode cX9_next 225 = .ok (.aload_n 0, 1) := by decide +kernel
theorem dX9_next_226 : decode cX9_next 226 = .ok (.getfield 20, 3) := by decide +kernel
theorem dX9_next_229 : decode cX9_next 229 = .ok (.aload_n 0, 1) := by decide +kernel
theorem dX9_next_230 : decode cX9_next 230 = .ok (.getfield 151, 3) := by decide +kernel
theorem dX9_next_233 : decode cX9_next 233 = .ok (.iaload, 1) := by decide +kernel
theorem dX9_next_234 : decode cX9_next 234 = .ok (.iadd, 1) := by decide +kernel
theorem dX9_next_235 : decode cX9_next 235 = .ok (.bipush 48, 2) := by decide +kernel
theorem dX9_next_237 : decode cX9_next 237 = .ok (.isub, 1) := by decide +kernel
theorem dX9_next_238 : decode cX9_next 238 = .ok (.goto 6, 3) := by decide +kernel
theorem dX9_next_241 : decode cX9_next 241 = .ok (.sipush 1000, 3) := by decide +kernel
theorem dX9_next_244 : decode cX9_next 244 = .ok (.putfield 157, 3) := by decide +kernel
theorem dX9_next_247 : decode cX9_next 247 = .ok (.iinc 2 1, 3) := by decide +kernel
theorem dX9_next_250 : decode cX9_next 250 = .ok (.aload_n 0, 1) := by decide +kernel
theorem dX9_next_251 : decode cX9_next 251 = .ok (.dup, 1) := by decide +kernel
theorem dX9_next_252 : decode cX9_next 252 = .ok (.getfield 151, 3) := by decide +kernel
theorem dX9_next_255 : decode cX9_next 255 = .ok (.iconst 1, 1) := by decide +kernel
theorem dX9_next_256 : decode cX9_next 256 = .ok (.iadd, 1) := by decide +kernel
theorem dX9_next_257 : decode cX9_next 257 = .ok (.putfield 151, 3) := by decide +kernel
theorem dX9_next_260 : decode cX9_next 260 = .ok (.goto (-74), 3) := by decide +kernel
theorem dX9_next_263 : decode cX9_next 263 = .ok (.aload_n 0, 1) := by decide +kernel
theorem dX9_next_264 : decode cX9_next 264 = .ok (.iconst 2, 1) := by decide +kernel
theorem dX9_next_265 : decode cX9_next 265 = .ok (.putfield 160, 3) := by decide +kernel
theorem dX9_next_268 : decode cX9_next 268 = .ok (.return_, 1) := by decide +kernel
theorem dX9_next_269 : decode cX9_next 269 = .ok (.aload_n 0, 1) := by decide +kernel
theorem dX9_next_270 : decode cX9_next 270 = .ok (.iload_n 1, 1) := by decide +kernel
theorem dX9_next_271 : decode cX9_next 271 = .ok (.bipush 59, 2) := by decide +kernel
theorem dX9_next_273 : decode cX9_next 273 = .ok (.if_icmp .ne 7, 3) := by decide +kernel
theorem dX9_next_276 : decode cX9_next 276 = .ok (.iconst 3, 1) := by decide +kernel
theorem dX9_next_277 : decode cX9_next 277 = .ok (.goto 4, 3) := by decide +kernel
theorem dX9_next_280 : decode cX9_next 280 = .ok (.iconst 4, 1) := by decide +kernel
theorem dX9_next_281 : decode cX9_next 281 = .ok (.putfield 160, 3) := by decide +kernel
theorem dX9_next_284 : decode cX9_next 284 = .ok (.aload_n 0, 1) := by decide +kernel
theorem dX9_next_285 : decode cX9_next 285 = .ok (.dup, 1) := by decide +kernel
theorem dX9_next_286 : decode cX9_next 286 = .ok (.getfield 151, 3) := by decide +kernel
theorem dX9_next_289 : decode cX9_next 289 = .ok (.iconst 1, 1) := by decide +kernel
theorem dX9_next_290 : decode cX9_next 290 = .ok (.iadd, 1) := by decide +kernel
theorem dX9_next_291 : decode cX9_next 291 = .ok (.putfield 151, 3) := by decide +kernel
theorem dX9_next_294 : decode cX9_next 294 = .ok (.return_, 1) := by decide +kernel
theorem dX9_manyOf_0 : decode cX9_manyOf 0 = .ok (.iload_n 0, 1) := by decide +kernel
theorem dX9_manyOf_1 : decode cX9_manyOf 1 = .ok (.lookupswitch 97 #[(1156, 91), (1420, 95), (6194, 91), (20141, 93), (23609, 91), (463922, 93), (508078, 93), (605220, 91), (631476, 93), (781852974, 91)], 91) := by decide +kernel
theorem dX9_manyOf_92 : decode cX9_manyOf 92 = .ok (.iconst 2, 1) := by decide +kernel
theorem dX9_manyOf_93 : decode cX9_manyOf 93 = .ok (.ireturn, 1) := by decide +kernel
theorem dX9_manyOf_94 : decode cX9_manyOf 94 = .ok (.iconst 1, 1) := by decide +kernel
theorem dX9_manyOf_95 : decode cX9_manyOf 95 = .ok (.ireturn, 1) := by decide +kernel
theorem dX9_manyOf_96 : decode cX9_manyOf 96 = .ok (.iconst 0, 1) := by decide +kernel
theorem dX9_manyOf_97 : decode cX9_manyOf 97 = .ok (.ireturn, 1) := by decide +kernel
theorem dX9_manyOf_98 : decode cX9_manyOf 98 = .ok (.iconst (-1), 1) := by decide +kernel
theorem dX9_manyOf_99 : decode cX9_manyOf 99 = .ok (.ireturn, 1) := by decide +kernel
set_option maxRecDepth 20000 in
theorem ggX9_mayBe_X9_in : GoodIn wsX9_mayBe wsX9_in := goodIn_r _ [9] (by decide +kernel) (by decide +kernel)
set_option maxRecDepth 20000 in
theorem gX9_mayBe_X9_in : GoodIn wsX9_mayBe (va_wsS RX9 39 yX9_in wsX9_in) := goodIn_app (goodIn_of _ (by decide +kernel)) ggX9_mayBe_X9_in
theorem dX9_mayBe_0 : decode cX9_mayBe 0 = .ok (.iload_n 1, 1) := by decide +kernel
theorem dX9_mayBe_1 : decode cX9_mayBe 1 = .ok (.ifCond .ne 30, 3) := by decide +kernel
theorem dX9_mayBe_4 : decode cX9_mayBe 4 = .ok (.iload_n 2, 1) := by decide +kernel
theorem dX9_mayBe_5 : decode cX9_mayBe 5 = .ok (.i2l, 1) := by decide +kernel
theorem dX9_mayBe_6 : decode cX9_mayBe 6 = .ok (.aload_n 0, 1) := by decide +kernel
theorem dX9_mayBe_7 : decode cX9_mayBe 7 = .ok (.getfield 169, 3) := by decide +kernel
theorem dX9_mayBe_10 : decode cX9_mayBe 10 = .ok (.ldc 172, 2) := by decide +kernel
theorem dX9_mayBe_12 : decode cX9_mayBe 12 = .ok (.if_icmp .ne 7, 3) := by decide +kernel
theorem dX9_mayBe_15 : decode cX9_mayBe 15 = .ok (.lconst 1, 1) := by decide +kernel
theorem dX9_mayBe_16 : decode cX9_mayBe 16 = .ok (.goto 4, 3) := by decide +kernel
theorem dX9_mayBe_19 : decode cX9_mayBe 19 = .ok (.lconst 0, 1) := by decide +kernel
theorem dX9_mayBe_20 : decode cX9_mayBe 20 = .ok (.aload_n 0, 1) := by decide +kernel
theorem dX9_mayBe_21 : decode cX9_mayBe 21 = .ok (.getfield 173, 3) := by decide +kernel
theorem dX9_mayBe_24 : decode cX9_mayBe 24 = .ok (.iconst 1, 1) := by decide +kernel
theorem dX9_mayBe_25 : decode cX9_mayBe 25 = .ok (.isub, 1) := by decide +kernel
theorem dX9_mayBe_26 : decode cX9_mayBe 26 = .ok (.i2l, 1) := by decide +kernel
theorem dX9_mayBe_27 : decode cX9_mayBe 27 = .ok (.invokestatic 39, 3) := by decide +kernel
theorem dX9_mayBe_30 : decode cX9_mayBe 30 = .ok (.ireturn, 1) := by decide +kernel
theorem dX9_mayBe_31 : decode cX9_mayBe 31 = .ok (.aload_n 0, 1) := by decide +kernel
theorem dX9_mayBe_32 : decode cX9_mayBe 32 = .ok (.getfield 169, 3) := by decide +kernel
theorem dX9_mayBe_35 : decode cX9_mayBe 35 = .ok (.sipush 1156, 3) := by decide +kernel
theorem dX9_mayBe_38 : decode cX9_mayBe 38 = .ok (.if_icmp .eq 12, 3) := by decide +kernel
theorem dX9_mayBe_41 : decode cX9_mayBe 41 = .ok (.aload_n 0, 1) := by decide +kernel
theorem dX9_mayBe_42 : decode cX9_mayBe 42 = .ok (.getfield 169, 3) := by decide +kernel
theorem dX9_mayBe_45 : decode cX9_mayBe 45 = .ok (.ldc 172, 2) := by decide +kernel
theorem dX9_mayBe_47 : decode cX9_mayBe 47 = .ok (.if_icmp .ne 15, 3) := by decide +kernel
theorem dX9_mayBe_50 : decode cX9_mayBe 50 = .ok (.iload_n 2, 1) := by decide +kernel
theorem dX9_mayBe_51 : decode cX9_mayBe 51 = .ok (.i2l, 1) := by decide +kernel
theorem dX9_mayBe_52 : decode cX9_mayBe 52 = .ok (.lconst 1, 1) := by decide +kernel
theorem dX9_mayBe_53 : decode cX9_mayBe 53 = .ok (.ldc2_w 53, 3) := by decide +kernel
theorem dX9_mayBe_56 : decode cX9_mayBe 56 = .ok (.invokestatic 39, 3) := by decide +kernel
theorem dX9_mayBe_59 : decode cX9_mayBe 59 = .ok (.goto 37, 3) := by decide +kernel
theorem dX9_mayBe_62 : decode cX9_mayBe 62 = .ok (.aload_n 0, 1) := by decide +kernel
theorem dX9_mayBe_63 : decode cX9_mayBe 63 = .ok (.getfield 169, 3) := by decide +kernel
theorem dX9_mayBe_66 : decode cX9_mayBe 66 = .ok (.ldc 176, 2) := by decide +kernel
theorem dX9_mayBe_68 : decode cX9_mayBe 68 = .ok (.if_icmp .ne 15, 3) := by decide +kernel
theorem dX9_mayBe_71 : decode cX9_mayBe 71 = .ok (.iload_n 2, 1) := by decide +kernel
theorem dX9_mayBe_72 : decode cX9_mayBe 72 = .ok (.i2l, 1) := by decide +kernel
theorem dX9_mayBe_73 : decode cX9_mayBe 73 = .ok (.lconst 0, 1) := by decide +kernel
theorem dX9_mayBe_74 : decode cX9_mayBe 74 = .ok (.ldc2_w 53, 3) := by decide +kernel
theorem dX9_mayBe_77 : decode cX9_mayBe 77 = .ok (.invokestatic 39, 3) := by decide +kernel
theorem dX9_mayBe_80 : decode cX9_mayBe 80 = .ok (.goto 16, 3) := by decide +kernel
theorem dX9_mayBe_83 : decode cX9_mayBe 83 = .ok (.iload_n 2, 1) := by decide +kernel
theorem dX9_mayBe_84 : decode cX9_mayBe 84 = .ok (.i2l, 1) := by decide +kernel
theorem dX9_mayBe_85 : decode cX9_mayBe 85 = .ok (.lconst 0, 1) := by decide +kernel
theorem dX9_mayBe_86 : decode cX9_mayBe 86 = .ok (.aload_n 0, 1) := by decide +kernel
theorem dX9_mayBe_87 : decode cX9_mayBe 87 = .ok (.getfield 173, 3) := by decide +kernel
theorem dX9_mayBe_90 : decode cX9_mayBe 90 = .ok (.iconst 1, 1) := by decide +kernel
theorem dX9_mayBe_91 : decode cX9_mayBe 91 = .ok (.isub, 1) := by decide +kernel
theorem dX9_mayBe_92 : decode cX9_mayBe 92 = .ok (.i2l, 1) := by decide +kernel
theorem dX9_mayBe_93 : decode cX9_mayBe 93 = .ok (.invokestatic 39, 3) := by decide +kernel
theorem dX9_mayBe_96 : decode cX9_mayBe 96 = .ok (.ireturn, 1) := by decide +kernel
set_option maxRecDepth 20000 in
theorem ggX9_isSentence_X9_next : GoodIn wsX9_isSentence wsX9_next := goodIn_r _ [10, 11, 12, 13, 14, 1, 3, 15, 16, 9, 17, 18, 19, 20, 21, 22, 23, 24, 25, 26, 27, 38, 39, 40, 41, 42, 43, 44, 45, 46, 47, 48, 49, 50, 51, 52, 53, 54, 55, 56, 57, 58, 59] (by decide +kernel) (by decide +kernel)
set_option maxRecDepth 20000 in
theorem gX9_isSentence_X9_next : GoodIn wsX9_isSentence (wsV RX9 177 RX9 yX9_next wsX9_next) := goodIn_app (goodIn_of _ (by decide +kernel)) ggX9_isSentence_X9_next
set_option maxRecDepth 20000 in
theorem ggX9_isSentence_X9_manyOf : GoodIn wsX9_isSentence wsX9_manyOf := goodIn_r _ [30] (by decide +kernel) (by decide +kernel)
set_option maxRecDepth 20000 in
theorem gX9_isSentence_X9_manyOf : GoodIn wsX9_isSentence (va_wsS RX9 180 yX9_manyOf wsX9_manyOf) := goodIn_app (goodIn_of _ (by decide +kernel)) ggX9_isSentence_X9_manyOf
set_option maxRecDepth 20000 in
theorem ggX9_isSentence_X9_mayBe : GoodIn wsX9_isSentence wsX9_mayBe := goodIn_r _ [34, 2, 35, 4, 36, 37, 20, 21, 9, 22, 38, 39, 40, 41, 42, 43, 44, 45, 46, 47, 48, 49, 50, 51, 52, 53, 54, 55, 56, 57, 58, 59] (by decide +kernel) (by decide +kernel)
set_option maxRecDepth 20000 in
theorem gX9_isSentence_X9_mayBe : GoodIn wsX9_isSentence (wsV RX9 183 RX9 yX9_mayBe wsX9_mayBe) := goodIn_app (goodIn_of _ (by decide +kernel)) ggX9_isSentence_X9_mayBe
theorem dX9_isSentence_0 : decode cX9_isSentence 0 = .ok (.aload_n 0, 1) := by decide +kernel
theorem dX9_isSentence_1 : decode cX9_isSentence 1 = .ok (.invokevirtual 177, 3) := by decide +kernel
theorem dX9_isSentence_4 : decode cX9_isSentence 4 = .ok (.aload_n 0, 1) := by decide +kernel
theorem dX9_isSentence_5 : decode cX9_isSentence 5 = .ok (.aload_n 0, 1) := by decide +kernel
theorem dX9_isSentence_6 : decode cX9_isSentence 6 = .ok (.getfield 157, 3) := by decide +kernel
theorem dX9_isSentence_9 : decode cX9_isSentence 9 = .ok (.putfield 169, 3) := by decide +kernel
theorem dX9_isSentence_12 : decode cX9_isSentence 12 = .ok (.aload_n 0, 1) := by decide +kernel
theorem dX9_isSentence_13 : decode cX9_isSentence 13 = .ok (.getfield 160, 3) := by decide +kernel
theorem dX9_isSentence_16 : decode cX9_isSentence 16 = .ok (.iconst 1, 1) := by decide +kernel
theorem dX9_isSentence_17 : decode cX9_isSentence 17 = .ok (.if_icmp .ne 13, 3) := by decide +kernel
theorem dX9_isSentence_20 : decode cX9_isSentence 20 = .ok (.aload_n 0, 1) := by decide +kernel
theorem dX9_isSentence_21 : decode cX9_isSentence 21 = .ok (.getfield 169, 3) := by decide +kernel
theorem dX9_isSentence_24 : decode cX9_isSentence 24 = .ok (.invokestatic 180, 3) := by decide +kernel
theorem dX9_isSentence_27 : decode cX9_isSentence 27 = .ok (.goto 4, 3) := by decide +kernel
theorem dX9_isSentence_30 : decode cX9_isSentence 30 = .ok (.iconst (-1), 1) := by decide +kernel
theorem dX9_isSentence_31 : decode cX9_isSentence 31 = .ok (.istore_n 1, 1) := by decide +kernel
theorem dX9_isSentence_32 : decode cX9_isSentence 32 = .ok (.iload_n 1, 1) := by decide +kernel
theorem dX9_isSentence_33 : decode cX9_isSentence 33 = .ok (.iconst (-1), 1) := by decide +kernel
theorem dX9_isSentence_34 : decode cX9_isSentence 34 = .ok (.if_icmp .eq 22, 3) := by decide +kernel
theorem dX9_isSentence_37 : decode cX9_isSentence 37 = .ok (.aload_n 0, 1) := by decide +kernel
theorem dX9_isSentence_38 : decode cX9_isSentence 38 = .ok (.getfield 169, 3) := by decide +kernel
theorem dX9_isSentence_41 : decode cX9_isSentence 41 = .ok (.sipush 1156, 3) := by decide +kernel
theorem dX9_isSentence_44 : decode cX9_isSentence 44 = .ok (.if_icmp .ne 14, 3) := by decide +kernel
theorem dX9_isSentence_47 : decode cX9_isSentence 47 = .ok (.aload_n 0, 1) := by decide +kernel
theorem dX9_isSentence_48 : decode cX9_isSentence 48 = .ok (.getfield 173, 3) := by decide +kernel
theorem dX9_isSentence_51 : decode cX9_isSentence 51 = .ok (.bipush 60, 2) := by decide +kernel
theorem dX9_isSentence_53 : decode cX9_isSentence 53 = .ok (.if_icmp .ne 5, 3) := by decide +kernel
theorem dX9_isSentence_56 : decode cX9_isSentence 56 = .ok (.iconst 0, 1) := by decide +kernel
theorem dX9_isSentence_57 : decode cX9_isSentence 57 = .ok (.ireturn, 1) := by decide +kernel
theorem dX9_isSentence_58 : decode cX9_isSentence 58 = .ok (.iconst 0, 1) := by decide +kernel
theorem dX9_isSentence_59 : decode cX9_isSentence 59 = .ok (.istore_n 2, 1) := by decide +kernel
theorem dX9_isSentence_60 : decode cX9_isSentence 60 = .ok (.iload_n 2, 1) := by decide +kernel
theorem dX9_isSentence_61 : decode cX9_isSentence 61 = .ok (.iload_n 1, 1) := by decide +kernel
theorem dX9_isSentence_62 : decode cX9_isSentence 62 = .ok (.if_icmp .ge 45, 3) := by decide +kernel
theorem dX9_isSentence_65 : decode cX9_isSentence 65 = .ok (.aload_n 0, 1) := by decide +kernel
theorem dX9_isSentence_66 : decode cX9_isSentence 66 = .ok (.invokevirtual 177, 3) := by decide +kernel
theorem dX9_isSentence_69 : decode cX9_isSentence 69 = .ok (.aload_n 0, 1) := by decide +kernel
theorem dX9_isSentence_70 : decode cX9_isSentence 70 = .ok (.getfield 160, 3) := by decide +kernel
theorem dX9_isSentence_73 : decode cX9_isSentence 73 = .ok (.iconst 2, 1) := by decide +kernel
theorem dX9_isSentence_74 : decode cX9_isSentence 74 = .ok (.if_icmp .ne 15, 3) := by decide +kernel
theorem dX9_isSentence_77 : decode cX9_isSentence 77 = .ok (.aload_n 0, 1) := by decide +kernel
theorem dX9_isSentence_78 : decode cX9_isSentence 78 = .ok (.iload_n 2, 1) := by decide +kernel
theorem dX9_isSentence_79 : decode cX9_isSentence 79 = .ok (.aload_n 0, 1) := by decide +kernel
theorem dX9_isSentence_80 : decode cX9_isSentence 80 = .ok (.getfield 157, 3) := by decide +kernel
theorem dX9_isSentence_83 : decode cX9_isSentence 83 = .ok (.invokevirtual 183, 3) := by decide +kernel
theorem dX9_isSentence_86 : decode cX9_isSentence 86 = .ok (.ifCond .ne 5, 3) := by decide +kernel
theorem dX9_isSentence_89 : decode cX9_isSentence 89 = .ok (.iconst 0, 1) := by decide +kernel
theorem dX9_isSentence_90 : decode cX9_isSentence 90 = .ok (.ireturn, 1) := by decide +kernel
theorem dX9_isSentence_91 : decode cX9_isSentence 91 = .ok (.aload_n 0, 1) := by decide +kernel
theorem dX9_isSentence_92 : decode cX9_isSentence 92 = .ok (.getfield 32, 3) := by decide +kernel
theorem dX9_isSentence_95 : decode cX9_isSentence 95 = .ok (.iload_n 2, 1) := by decide +kernel
theorem dX9_isSentence_96 : decode cX9_isSentence 96 = .ok (.aload_n 0, 1) := by decide +kernel
theorem dX9_isSentence_97 : decode cX9_isSentence 97 = .ok (.getfield 157, 3) := by decide +kernel
theorem dX9_isSentence_100 : decode cX9_isSentence 100 = .ok (.iastore, 1) := by decide +kernel
theorem dX9_isSentence_101 : decode cX9_isSentence 101 = .ok (.iinc 2 1, 3) := by decide +kernel
theorem dX9_isSentence_104 : decode cX9_isSentence 104 = .ok (.goto (-44), 3) := by decide +kernel
theorem dX9_isSentence_107 : decode cX9_isSentence 107 = .ok (.aload_n 0, 1) := by decide +kernel
theorem dX9_isSentence_108 : decode cX9_isSentence 108 = .ok (.invokevirtual 177, 3) := by decide +kernel
theorem dX9_isSentence_111 : decode cX9_isSentence 111 = .ok (.aload_n 0, 1) := by decide +kernel
theorem dX9_isSentence_112 : decode cX9_isSentence 112 = .ok (.dup, 1) := by decide +kernel
theorem dX9_isSentence_113 : decode cX9_isSentence 113 = .ok (.getfield 173, 3) := by decide +kernel
theorem dX9_isSentence_116 : decode cX9_isSentence 116 = .ok (.aload_n 0, 1) := by decide +kernel
theorem dX9_isSentence_117 : decode cX9_isSentence 117 = .ok (.getfield 169, 3) := by decide +kernel
theorem dX9_isSentence_120 : decode cX9_isSentence 120 = .ok (.sipush 1156, 3) := by decide +kernel
theorem dX9_isSentence_123 : decode cX9_isSentence 123 = .ok (.if_icmp .ne 7, 3) := by decide +kernel
theorem dX9_isSentence_126 : decode cX9_isSentence 126 = .ok (.iconst 1, 1) := by decide +kernel
theorem dX9_isSentence_127 : decode cX9_isSentence 127 = .ok (.goto 4, 3) := by decide +kernel
theorem dX9_isSentence_130 : decode cX9_isSentence 130 = .ok (.iconst 0, 1) := by decide +kernel
theorem dX9_isSentence_131 : decode cX9_isSentence 131 = .ok (.iadd, 1) := by decide +kernel
theorem dX9_isSentence_132 : decode cX9_isSentence 132 = .ok (.putfield 173, 3) := by decide +kernel
theorem dX9_isSentence_135 : decode cX9_isSentence 135 = .ok (.aload_n 0, 1) := by decide +kernel
theorem dX9_isSentence_136 : decode cX9_isSentence 136 = .ok (.getfield 160, 3) := by decide +kernel
theorem dX9_isSentence_139 : decode cX9_isSentence 139 = .ok (.iconst 3, 1) := by decide +kernel
theorem dX9_isSentence_140 : decode cX9_isSentence 140 = .ok (.if_icmp .ne 7, 3) := by decide +kernel
theorem dX9_isSentence_143 : decode cX9_isSentence 143 = .ok (.iconst 1, 1) := by decide +kernel
theorem dX9_isSentence_144 : decode cX9_isSentence 144 = .ok (.goto 4, 3) := by decide +kernel
theorem dX9_isSentence_147 : decode cX9_isSentence 147 = .ok (.iconst 0, 1) := by decide +kernel
theorem dX9_isSentence_148 : decode cX9_isSentence 148 = .ok (.ireturn, 1) := by decide +kernel
theorem dX9_isMore_0 : decode cX9_isMore 0 = .ok (.aload_n 0, 1) := by decide +kernel
theorem dX9_isMore_1 : decode cX9_isMore 1 = .ok (.getfield 151, 3) := by decide +kernel
theorem dX9_isMore_4 : decode cX9_isMore 4 = .ok (.istore_n 1, 1) := by decide +kernel
theorem dX9_isMore_5 : decode cX9_isMore 5 = .ok (.iload_n 1, 1) := by decide +kernel
theorem dX9_isMore_6 : decode cX9_isMore 6 = .ok (.aload_n 0, 1) := by decide +kernel
theorem dX9_isMore_7 : decode cX9_isMore 7 = .ok (.getfield 140, 3) := by decide +kernel
theorem dX9_isMore_10 : decode cX9_isMore 10 = .ok (.if_icmp .ge 20, 3) := by decide +kernel
theorem dX9_isMore_13 : decode cX9_isMore 13 = .ok (.aload_n 0, 1) := by decide +kernel
theorem dX9_isMore_14 : decode cX9_isMore 14 = .ok (.getfield 20, 3) := by decide +kernel
theorem dX9_isMore_17 : decode cX9_isMore 17 = .ok (.iload_n 1, 1) := by decide +kernel
theorem dX9_isMore_18 : decode cX9_isMore 18 = .ok (.iaload, 1) := by decide +kernel
theorem dX9_isMore_19 : decode cX9_isMore 19 = .ok (.bipush 32, 2) := by decide +kernel
theorem dX9_isMore_21 : decode cX9_isMore 21 = .ok (.if_icmp .ne 9, 3) := by decide +kernel
theorem dX9_isMore_24 : decode cX9_isMore 24 = .ok (.iinc 1 1, 3) := by decide +kernel
theorem dX9_isMore_27 : decode cX9_isMore 27 = .ok (.goto (-22), 3) := by decide +kernel
theorem dX9_isMore_30 : decode cX9_isMore 30 = .ok (.iload_n 1, 1) := by decide +kernel
theorem dX9_isMore_31 : decode cX9_isMore 31 = .ok (.aload_n 0, 1) := by decide +kernel
theorem dX9_isMore_32 : decode cX9_isMore 32 = .ok (.getfield 140, 3) := by decide +kernel
theorem dX9_isMore_35 : decode cX9_isMore 35 = .ok (.if_icmp .ge 7, 3) := by decide +kernel
theorem dX9_isMore_38 : decode cX9_isMore 38 = .ok (.iconst 1, 1) := by decide +kernel
theorem dX9_isMore_39 : decode cX9_isMore 39 = .ok (.goto 4, 3) := by decide +kernel
theorem dX9_isMore_42 : decode cX9_isMore 42 = .ok (.iconst 0, 1) := by decide +kernel
theorem dX9_isMore_43 : decode cX9_isMore 43 = .ok (.ireturn, 1) := by decide +kernel
theorem dX9_putSign_0 : decode cX9_putSign 0 = .ok (.aload_n 0, 1) := by decide +kernel
theorem dX9_putSign_1 : decode cX9_putSign 1 = .ok (.getfield 187, 3) := by decide +kernel
theorem dX9_putSign_4 : decode cX9_putSign 4 = .ok (.sipush 400, 3) := by decide +kernel
theorem dX9_putSign_7 : decode cX9_putSign 7 = .ok (.if_icmp .ge 23, 3) := by decide +kernel
theorem dX9_putSign_10 : decode cX9_putSign 10 = .ok (.aload_n 0, 1) := by decide +kernel
theorem dX9_putSign_11 : decode cX9_putSign 11 = .ok (.getfield 23, 3) := by decide +kernel
theorem dX9_putSign_14 : decode cX9_putSign 14 = .ok (.aload_n 0, 1) := by decide +kernel
theorem dX9_putSign_15 : decode cX9_putSign 15 = .ok (.getfield 187, 3) := by decide +kernel
theorem dX9_putSign_18 : decode cX9_putSign 18 = .ok (.iload_n 1, 1) := by decide +kernel
theorem dX9_putSign_19 : decode cX9_putSign 19 = .ok (.iastore, 1) := by decide +kernel
theorem dX9_putSign_20 : decode cX9_putSign 20 = .ok (.aload_n 0, 1) := by decide +kernel
theorem dX9_putSign_21 : decode cX9_putSign 21 = .ok (.dup, 1) := by decide +kernel
theorem dX9_putSign_22 : decode cX9_putSign 22 = .ok (.getfield 187, 3) := by decide +kernel
theorem dX9_putSign_25 : decode cX9_putSign 25 = .ok (.iconst 1, 1) := by decide +kernel
theorem dX9_putSign_26 : decode cX9_putSign 26 = .ok (.iadd, 1) := by decide +kernel
theorem dX9_putSign_27 : decode cX9_putSign 27 = .ok (.putfield 187, 3) := by decide +kernel
theorem dX9_putSign_30 : decode cX9_putSign 30 = .ok (.return_, 1) := by decide +kernel
set_option maxRecDepth 20000 in
theorem ggX9_putNumber_X9_putSign : GoodIn wsX9_putNumber wsX9_putSign := goodIn_r _ [5, 6, 7, 8, 9, 10, 11, 12, 13, 14, 15, 16, 17, 18, 19, 20, 21, 22, 23, 24, 25, 26, 27, 28, 29] (by decide +kernel) (by decide +kernel)
set_option maxRecDepth 20000 in
theorem gX9_putNumber_X9_putSign : GoodIn wsX9_putNumber (wsV RX9 190 RX9 yX9_putSign wsX9_putSign) := goodIn_app (goodIn_of _ (by decide +kernel)) ggX9_putNumber_X9_putSign
theorem dX9_putNumber_0 : decode cX9_putNumber 0 = .ok (.iconst 1, 1) := by decide +kernel
theorem dX9_putNumber_1 : decode cX9_putNumber 1 = .ok (.istore_n 2, 1) := by decide +kernel
theorem dX9_putNumber_2 : decode cX9_putNumber 2 = .ok (.iload_n 1, 1) := by decide +kernel
theorem dX9_putNumber_3 : decode cX9_putNumber 3 = .ok (.iload_n 2, 1) := by decide +kernel
theorem dX9_putNumber_4 : decode cX9_putNumber 4 = .ok (.idiv, 1) := by decide +kernel
theorem dX9_putNumber_5 : decode cX9_putNumber 5 = .ok (.bipush 9, 2) := by decide +kernel
theorem dX9_putNumber_7 : decode cX9_putNumber 7 = .ok (.if_icmp .le 11, 3) := by decide +kernel
theorem dX9_putNumber_10 : decode cX9_putNumber 10 = .ok (.iload_n 2, 1) := by decide +kernel
theorem dX9_putNumber_11 : decode cX9_putNumber 11 = .ok (.bipush 10, 2) := by decide +kernel
theorem dX9_putNumber_13 : decode cX9_putNumber 13 = .ok (.imul, 1) := by decide +kernel
theorem dX9_putNumber_14 : decode cX9_putNumber 14 = .ok (.istore_n 2, 1) := by decide +kernel
theorem dX9_putNumber_15 : decode cX9_putNumber 15 = .ok (.goto (-13), 3) := by decide +kernel
theorem dX9_putNumber_18 : decode cX9_putNumber 18 = .ok (.iload_n 2, 1) := by decide +kernel
theorem dX9_putNumber_19 : decode cX9_putNumber 19 = .ok (.ifCond .le 24, 3) := by decide +kernel
theorem dX9_putNumber_22 : decode cX9_putNumber 22 = .ok (.aload_n 0, 1) := by decide +kernel
theorem dX9_putNumber_23 : decode cX9_putNumber 23 = .ok (.bipush 48, 2) := by decide +kernel
theorem dX9_putNumber_25 : decode cX9_putNumber 25 = .ok (.iload_n 1, 1) := by decide +kernel
theorem dX9_putNumber_26 : decode cX9_putNumber 26 = .ok (.iload_n 2, 1) := by decide +kernel
theorem dX9_putNumber_27 : decode cX9_putNumber 27 = .ok (.idiv, 1) := by decide +kernel
theorem dX9_putNumber_28 : decode cX9_putNumber 28 = .ok (.bipush 10, 2) := by decide +kernel
theorem dX9_putNumber_30 : decode cX9_putNumber 30 = .ok (.irem, 1) := by decide +kernel
theorem dX9_putNumber_31 : decode cX9_putNumber 31 = .ok (.iadd, 1) := by decide +kernel
theorem dX9_putNumber_32 : decode cX9_putNumber 32 = .ok (.invokevirtual 190, 3) := by decide +kernel
theorem dX9_putNumber_35 : decode cX9_putNumber 35 = .ok (.iload_n 2, 1) := by decide +kernel
theorem dX9_putNumber_36 : decode cX9_putNumber 36 = .ok (.bipush 10, 2) := by decide +kernel
theorem dX9_putNumber_38 : decode cX9_putNumber 38 = .ok (.idiv, 1) := by decide +kernel
theorem dX9_putNumber_39 : decode cX9_putNumber 39 = .ok (.istore_n 2, 1) := by decide +kernel
theorem dX9_putNumber_40 : decode cX9_putNumber 40 = .ok (.goto (-22), 3) := by decide +kernel
theorem dX9_putNumber_43 : decode cX9_putNumber 43 = .ok (.return_, 1) := by decide +kernel
set_option maxRecDepth 20000 in
theorem ggX9_sayWay_X9_findWay : GoodIn wsX9_sayWay wsX9_findWay := goodIn_r _ [8, 3, 9, 2, 20, 21, 22, 23, 24, 25, 26, 27, 28, 29, 30, 31, 32, 33, 34, 35, 36, 37, 38, 39, 40, 41] (by decide +kernel) (by decide +kernel)
set_option maxRecDepth 20000 in
theorem gX9_sayWay_X9_findWay : GoodIn wsX9_sayWay (wsV RX9 105 RX9 yX9_findWay wsX9_findWay) := goodIn_app (goodIn_of _ (by decide +kernel)) ggX9_sayWay_X9_findWay
set_option maxRecDepth 20000 in
theorem ggX9_sayWay_X9_putSign : GoodIn wsX9_sayWay wsX9_putSign := goodIn_r _ [13, 14, 15, 20, 21, 22, 23, 24, 25, 26, 27, 28, 29, 30, 31, 32, 33, 34, 35, 36, 37, 38, 39, 40, 41] (by decide +kernel) (by decide +kernel)
set_option maxRecDepth 20000 in
theorem gX9_sayWay_X9_putSign : GoodIn wsX9_sayWay (wsV RX9 190 RX9 yX9_putSign wsX9_putSign) := goodIn_app (goodIn_of _ (by decide +kernel)) ggX9_sayWay_X9_putSign
set_option maxRecDepth 20000 in
theorem ggX9_sayWay_X9_putNumber : GoodIn wsX9_sayWay wsX9_putNumber := goodIn_r _ [19, 10, 11, 12, 7, 13, 14, 15, 20, 21, 22, 23, 24, 25, 26, 27, 28, 29, 30, 31, 32, 33, 34, 35, 36, 37, 38, 39, 40, 41] (by decide +kernel) (by decide +kernel)
set_option maxRecDepth 20000 in
theorem gX9_sayWay_X9_putNumber : GoodIn wsX9_sayWay (wsV RX9 194 RX9 yX9_putNumber wsX9_putNumber) := goodIn_app (goodIn_of _ (by decide +kernel)) ggX9_sayWay_X9_putNumber
theorem dX9_sayWay_0 : decode cX9_sayWay 0 = .ok (.aload_n 0, 1) := by decide +kernel
theorem dX9_sayWay_1 : decode cX9_sayWay 1 = .ok (.aload_n 0, 1) := by decide +kernel
theorem dX9_sayWay_2 : decode cX9_sayWay 2 = .ok (.getfield 32, 3) := by decide +kernel
theorem dX9_sayWay_5 : decode cX9_sayWay 5 = .ok (.iconst 0, 1) := by decide +kernel
theorem dX9_sayWay_6 : decode cX9_sayWay 6 = .ok (.iaload, 1) := by decide +kernel
theorem dX9_sayWay_7 : decode cX9_sayWay 7 = .ok (.aload_n 0, 1) := by decide +kernel
theorem dX9_sayWay_8 : decode cX9_sayWay 8 = .ok (.getfield 32, 3) := by decide +kernel
theorem dX9_sayWay_11 : decode cX9_sayWay 11 = .ok (.iconst 1, 1) := by decide +kernel
theorem dX9_sayWay_12 : decode cX9_sayWay 12 = .ok (.iaload, 1) := by decide +kernel
theorem dX9_sayWay_13 : decode cX9_sayWay 13 = .ok (.invokevirtual 105, 3) := by decide +kernel
theorem dX9_sayWay_16 : decode cX9_sayWay 16 = .ok (.iconst 0, 1) := by decide +kernel
theorem dX9_sayWay_17 : decode cX9_sayWay 17 = .ok (.istore_n 1, 1) := by decide +kernel
theorem dX9_sayWay_18 : decode cX9_sayWay 18 = .ok (.iload_n 1, 1) := by decide +kernel
theorem dX9_sayWay_19 : decode cX9_sayWay 19 = .ok (.aload_n 0, 1) := by decide +kernel
theorem dX9_sayWay_20 : decode cX9_sayWay 20 = .ok (.getfield 102, 3) := by decide +kernel
theorem dX9_sayWay_23 : decode cX9_sayWay 23 = .ok (.if_icmp .ge 29, 3) := by decide +kernel
theorem dX9_sayWay_26 : decode cX9_sayWay 26 = .ok (.iload_n 1, 1) := by decide +kernel
theorem dX9_sayWay_27 : decode cX9_sayWay 27 = .ok (.ifCond .le 9, 3) := by decide +kernel
theorem dX9_sayWay_30 : decode cX9_sayWay 30 = .ok (.aload_n 0, 1) := by decide +kernel
theorem dX9_sayWay_31 : decode cX9_sayWay 31 = .ok (.bipush 62, 2) := by decide +kernel
theorem dX9_sayWay_33 : decode cX9_sayWay 33 = .ok (.invokevirtual 190, 3) := by decide +kernel
theorem dX9_sayWay_36 : decode cX9_sayWay 36 = .ok (.aload_n 0, 1) := by decide +kernel
theorem dX9_sayWay_37 : decode cX9_sayWay 37 = .ok (.aload_n 0, 1) := by decide +kernel
theorem dX9_sayWay_38 : decode cX9_sayWay 38 = .ok (.getfield 26, 3) := by decide +kernel
theorem dX9_sayWay_41 : decode cX9_sayWay 41 = .ok (.iload_n 1, 1) := by decide +kernel
theorem dX9_sayWay_42 : decode cX9_sayWay 42 = .ok (.iaload, 1) := by decide +kernel
theorem dX9_sayWay_43 : decode cX9_sayWay 43 = .ok (.invokevirtual 194, 3) := by decide +kernel
theorem dX9_sayWay_46 : decode cX9_sayWay 46 = .ok (.iinc 1 1, 3) := by decide +kernel
theorem dX9_sayWay_49 : decode cX9_sayWay 49 = .ok (.goto (-31), 3) := by decide +kernel
theorem dX9_sayWay_52 : decode cX9_sayWay 52 = .ok (.return_, 1) := by decide +kernel
set_option maxRecDepth 20000 in
theorem ggX9_sayAll_X9_putSign : GoodIn wsX9_sayAll wsX9_putSign := goodIn_r _ [7, 8, 9, 14, 15, 16, 17, 18, 19, 20, 21, 22, 23, 24, 25, 26, 27, 28, 29, 30, 31, 32, 33, 34, 35] (by decide +kernel) (by decide +kernel)
set_option maxRecDepth 20000 in
theorem gX9_sayAll_X9_putSign : GoodIn wsX9_sayAll (wsV RX9 190 RX9 yX9_putSign wsX9_putSign) := goodIn_app (goodIn_of _ (by decide +kernel)) ggX9_sayAll_X9_putSign
set_option maxRecDepth 20000 in
theorem ggX9_sayAll_X9_putNumber : GoodIn wsX9_sayAll wsX9_putNumber := goodIn_r _ [13, 3, 4, 5, 6, 7, 8, 9, 14, 15, 16, 17, 18, 19, 20, 21, 22, 23, 24, 25, 26, 27, 28, 29, 30, 31, 32, 33, 34, 35] (by decide +kernel) (by decide +kernel)
set_option maxRecDepth 20000 in
theorem gX9_sayAll_X9_putNumber : GoodIn wsX9_sayAll (wsV RX9 194 RX9 yX9_putNumber wsX9_putNumber) := goodIn_app (goodIn_of _ (by decide +kernel)) ggX9_sayAll_X9_putNumber
theorem dX9_sayAll_0 : decode cX9_sayAll 0 = .ok (.iconst 0, 1) := by decide +kernel
theorem dX9_sayAll_1 : decode cX9_sayAll 1 = .ok (.istore_n 1, 1) := by decide +kernel
theorem dX9_sayAll_2 : decode cX9_sayAll 2 = .ok (.iconst 0, 1) := by decide +kernel
theorem dX9_sayAll_3 : decode cX9_sayAll 3 = .ok (.istore_n 2, 1) := by decide +kernel
theorem dX9_sayAll_4 : decode cX9_sayAll 4 = .ok (.iload_n 2, 1) := by decide +kernel
theorem dX9_sayAll_5 : decode cX9_sayAll 5 = .ok (.aload_n 0, 1) := by decide +kernel
theorem dX9_sayAll_6 : decode cX9_sayAll 6 = .ok (.getfield 35, 3) := by decide +kernel
theorem dX9_sayAll_9 : decode cX9_sayAll 9 = .ok (.if_icmp .ge 35, 3) := by decide +kernel
theorem dX9_sayAll_12 : decode cX9_sayAll 12 = .ok (.aload_n 0, 1) := by decide +kernel
theorem dX9_sayAll_13 : decode cX9_sayAll 13 = .ok (.getfield 16, 3) := by decide +kernel
theorem dX9_sayAll_16 : decode cX9_sayAll 16 = .ok (.iload_n 2, 1) := by decide +kernel
theorem dX9_sayAll_17 : decode cX9_sayAll 17 = .ok (.baload, 1) := by decide +kernel
theorem dX9_sayAll_18 : decode cX9_sayAll 18 = .ok (.ifCond .eq 20, 3) := by decide +kernel
theorem dX9_sayAll_21 : decode cX9_sayAll 21 = .ok (.iload_n 1, 1) := by decide +kernel
theorem dX9_sayAll_22 : decode cX9_sayAll 22 = .ok (.ifCond .eq 9, 3) := by decide +kernel
theorem dX9_sayAll_25 : decode cX9_sayAll 25 = .ok (.aload_n 0, 1) := by decide +kernel
theorem dX9_sayAll_26 : decode cX9_sayAll 26 = .ok (.bipush 44, 2) := by decide +kernel
theorem dX9_sayAll_28 : decode cX9_sayAll 28 = .ok (.invokevirtual 190, 3) := by decide +kernel
theorem dX9_sayAll_31 : decode cX9_sayAll 31 = .ok (.aload_n 0, 1) := by decide +kernel
theorem dX9_sayAll_32 : decode cX9_sayAll 32 = .ok (.iload_n 2, 1) := by decide +kernel
theorem dX9_sayAll_33 : decode cX9_sayAll 33 = .ok (.invokevirtual 194, 3) := by decide +kernel
theorem dX9_sayAll_36 : decode cX9_sayAll 36 = .ok (.iconst 1, 1) := by decide +kernel
theorem dX9_sayAll_37 : decode cX9_sayAll 37 = .ok (.istore_n 1, 1) := by decide +kernel
theorem dX9_sayAll_38 : decode cX9_sayAll 38 = .ok (.iinc 2 1, 3) := by decide +kernel
theorem dX9_sayAll_41 : decode cX9_sayAll 41 = .ok (.goto (-37), 3) := by decide +kernel
theorem dX9_sayAll_44 : decode cX9_sayAll 44 = .ok (.iload_n 1, 1) := by decide +kernel
theorem dX9_sayAll_45 : decode cX9_sayAll 45 = .ok (.ifCond .ne 9, 3) := by decide +kernel
theorem dX9_sayAll_48 : decode cX9_sayAll 48 = .ok (.aload_n 0, 1) := by decide +kernel
theorem dX9_sayAll_49 : decode cX9_sayAll 49 = .ok (.bipush 45, 2) := by decide +kernel
theorem dX9_sayAll_51 : decode cX9_sayAll 51 = .ok (.invokevirtual 190, 3) := by decide +kernel
theorem dX9_sayAll_54 : decode cX9_sayAll 54 = .ok (.return_, 1) := by decide +kernel
set_option maxRecDepth 20000 in
theorem ggX9_sayNear_X9_nearestOf : GoodIn wsX9_sayNear wsX9_nearestOf := goodIn_r _ [6, 7, 8, 9, 10, 11, 5, 12, 13, 14, 25, 26, 27, 28, 29, 30, 31, 32, 33, 34, 35, 36, 37, 38, 39, 40, 41, 42, 43, 44, 45, 46] (by decide +kernel) (by decide +kernel)
set_option maxRecDepth 20000 in
theorem gX9_sayNear_X9_nearestOf : GoodIn wsX9_sayNear (wsV RX9 121 RX9 yX9_nearestOf wsX9_nearestOf) := goodIn_app (goodIn_of _ (by decide +kernel)) ggX9_sayNear_X9_nearestOf
set_option maxRecDepth 20000 in
theorem ggX9_sayNear_X9_putSign : GoodIn wsX9_sayNear wsX9_putSign := goodIn_r _ [18, 19, 20, 25, 26, 27, 28, 29, 30, 31, 32, 33, 34, 35, 36, 37, 38, 39, 40, 41, 42, 43, 44, 45, 46] (by decide +kernel) (by decide +kernel)
set_option maxRecDepth 20000 in
theorem gX9_sayNear_X9_putSign : GoodIn wsX9_sayNear (wsV RX9 190 RX9 yX9_putSign wsX9_putSign) := goodIn_app (goodIn_of _ (by decide +kernel)) ggX9_sayNear_X9_putSign
set_option maxRecDepth 20000 in
theorem ggX9_sayNear_X9_putNumber : GoodIn wsX9_sayNear wsX9_putNumber := goodIn_r _ [24, 15, 16, 17, 5, 18, 19, 20, 25, 26, 27, 28, 29, 30, 31, 32, 33, 34, 35, 36, 37, 38, 39, 40, 41, 42, 43, 44, 45, 46] (by decide +kernel) (by decide +kernel)
set_option maxRecDepth 20000 in
theorem gX9_sayNear_X9_putNumber : GoodIn wsX9_sayNear (wsV RX9 194 RX9 yX9_putNumber wsX9_putNumber) := goodIn_app (goodIn_of _ (by decide +kernel)) ggX9_sayNear_X9_putNumber
set_option maxRecDepth 20000 in
theorem ggX9_sayNear_X9_farFrom : GoodIn wsX9_sayNear wsX9_farFrom := goodIn_r _ [12, 13, 14, 25, 26, 27, 28, 29, 30, 31, 32, 33, 34, 35, 36, 37, 38, 39, 40, 41, 42, 43, 44, 45, 46] (by decide +kernel) (by decide +kernel)
set_option maxRecDepth 20000 in
theorem gX9_sayNear_X9_farFrom : GoodIn wsX9_sayNear (wsV RX9 99 RX9 yX9_farFrom wsX9_farFrom) := goodIn_app (goodIn_of _ (by decide +kernel)) ggX9_sayNear_X9_farFrom
theorem dX9_sayNear_0 : decode cX9_sayNear 0 = .ok (.aload_n 0, 1) := by decide +kernel
theorem dX9_sayNear_1 : decode cX9_sayNear 1 = .ok (.aload_n 0, 1) := by decide +kernel
theorem dX9_sayNear_2 : decode cX9_sayNear 2 = .ok (.getfield 32, 3) := by decide +kernel
theorem dX9_sayNear_5 : decode cX9_sayNear 5 = .ok (.iconst 0, 1) := by decide +kernel
theorem dX9_sayNear_6 : decode cX9_sayNear 6 = .ok (.iaload, 1) := by decide +kernel
theorem dX9_sayNear_7 : decode cX9_sayNear 7 = .ok (.invokevirtual 121, 3) := by decide +kernel
theorem dX9_sayNear_10 : decode cX9_sayNear 10 = .ok (.istore_n 1, 1) := by decide +kernel
theorem dX9_sayNear_11 : decode cX9_sayNear 11 = .ok (.iload_n 1, 1) := by decide +kernel
theorem dX9_sayNear_12 : decode cX9_sayNear 12 = .ok (.iconst (-1), 1) := by decide +kernel
theorem dX9_sayNear_13 : decode cX9_sayNear 13 = .ok (.if_icmp .ne 12, 3) := by decide +kernel
theorem dX9_sayNear_16 : decode cX9_sayNear 16 = .ok (.aload_n 0, 1) := by decide +kernel
theorem dX9_sayNear_17 : decode cX9_sayNear 17 = .ok (.bipush 45, 2) := by decide +kernel
theorem dX9_sayNear_19 : decode cX9_sayNear 19 = .ok (.invokevirtual 190, 3) := by decide +kernel
theorem dX9_sayNear_22 : decode cX9_sayNear 22 = .ok (.goto 29, 3) := by decide +kernel
theorem dX9_sayNear_25 : decode cX9_sayNear 25 = .ok (.aload_n 0, 1) := by decide +kernel
theorem dX9_sayNear_26 : decode cX9_sayNear 26 = .ok (.iload_n 1, 1) := by decide +kernel
theorem dX9_sayNear_27 : decode cX9_sayNear 27 = .ok (.invokevirtual 194, 3) := by decide +kernel
theorem dX9_sayNear_30 : decode cX9_sayNear 30 = .ok (.aload_n 0, 1) := by decide +kernel
theorem dX9_sayNear_31 : decode cX9_sayNear 31 = .ok (.bipush 64, 2) := by decide +kernel
theorem dX9_sayNear_33 : decode cX9_sayNear 33 = .ok (.invokevirtual 190, 3) := by decide +kernel
theorem dX9_sayNear_36 : decode cX9_sayNear 36 = .ok (.aload_n 0, 1) := by decide +kernel
theorem dX9_sayNear_37 : decode cX9_sayNear 37 = .ok (.aload_n 0, 1) := by decide +kernel
theorem dX9_sayNear_38 : decode cX9_sayNear 38 = .ok (.iload_n 1, 1) := by decide +kernel
theorem dX9_sayNear_39 : decode cX9_sayNear 39 = .ok (.aload_n 0, 1) := by decide +kernel
theorem dX9_sayNear_40 : decode cX9_sayNear 40 = .ok (.getfield 32, 3) := by decide +kernel
theorem dX9_sayNear_43 : decode cX9_sayNear 43 = .ok (.iconst 0, 1) := by decide +kernel
theorem dX9_sayNear_44 : decode cX9_sayNear 44 = .ok (.iaload, 1) := by decide +kernel
theorem dX9_sayNear_45 : decode cX9_sayNear 45 = .ok (.invokevirtual 99, 3) := by decide +kernel
theorem dX9_sayNear_48 : decode cX9_sayNear 48 = .ok (.invokevirtual 194, 3) := by decide +kernel
theorem dX9_sayNear_51 : decode cX9_sayNear 51 = .ok (.return_, 1) := by decide +kernel
set_option maxRecDepth 20000 in
theorem ggX9_say_X9_come : GoodIn wsX9_say wsX9_come := goodIn_r _ [8, 9, 10, 11, 12, 65, 66, 67, 68, 69, 70, 71, 72, 73, 74, 75, 76, 77, 78, 79, 80, 81, 82, 83, 84, 85, 86] (by decide +kernel) (by decide +kernel)
set_option maxRecDepth 20000 in
theorem gX9_say_X9_come : GoodIn wsX9_say (wsV RX9 62 RX9 yX9_come wsX9_come) := goodIn_app (goodIn_of _ (by decide +kernel)) ggX9_say_X9_come
set_option maxRecDepth 20000 in
theorem ggX9_say_X9_putNumber : GoodIn wsX9_say wsX9_putNumber := goodIn_r _ [16, 17, 18, 19, 7, 20, 21, 22, 65, 66, 67, 68, 69, 70, 71, 72, 73, 74, 75, 76, 77, 78, 79, 80, 81, 82, 83, 84, 85, 86] (by decide +kernel) (by decide +kernel)
set_option maxRecDepth 20000 in
theorem gX9_say_X9_putNumber : GoodIn wsX9_say (wsV RX9 194 RX9 yX9_putNumber wsX9_putNumber) := goodIn_app (goodIn_of _ (by decide +kernel)) ggX9_say_X9_putNumber
set_option maxRecDepth 20000 in
theorem ggX9_say_X9_becomes : GoodIn wsX9_say wsX9_becomes := goodIn_r _ [26, 12, 65, 66, 67, 68, 69, 70, 71, 72, 73, 74, 75, 76, 77, 78, 79, 80, 81, 82, 83, 84, 85, 86] (by decide +kernel) (by decide +kernel)
set_option maxRecDepth 20000 in
theorem gX9_say_X9_becomes : GoodIn wsX9_say (wsV RX9 66 RX9 yX9_becomes wsX9_becomes) := goodIn_app (goodIn_of _ (by decide +kernel)) ggX9_say_X9_becomes
set_option maxRecDepth 20000 in
theorem ggX9_say_X9_lengthen : GoodIn wsX9_say wsX9_lengthen := goodIn_r _ [30, 11, 65, 66, 67, 68, 69, 70, 71, 72, 73, 74, 75, 76, 77, 78, 79, 80, 81, 82, 83, 84, 85, 86] (by decide +kernel) (by decide +kernel)
set_option maxRecDepth 20000 in
theorem gX9_say_X9_lengthen : GoodIn wsX9_say (wsV RX9 70 RX9 yX9_lengthen wsX9_lengthen) := goodIn_app (goodIn_of _ (by decide +kernel)) ggX9_say_X9_lengthen
set_option maxRecDepth 20000 in
theorem ggX9_say_X9_sayNear : GoodIn wsX9_say wsX9_sayNear := goodIn_r _ [34, 1, 35, 36, 37, 7, 38, 10, 12, 39, 40, 41, 42, 11, 9, 17, 18, 19, 20, 21, 22, 13, 14, 15, 16, 65, 66, 67, 68, 69, 70, 71, 72, 73, 74, 75, 76, 77, 78, 79, 80, 81, 82, 83, 84, 85, 86] (by decide +kernel) (by decide +kernel)
set_option maxRecDepth 20000 in
theorem gX9_say_X9_sayNear : GoodIn wsX9_say (wsV RX9 198 RX9 yX9_sayNear wsX9_sayNear) := goodIn_app (goodIn_of _ (by decide +kernel)) ggX9_say_X9_sayNear
set_option maxRecDepth 20000 in
theorem ggX9_say_X9_farFrom : GoodIn wsX9_say wsX9_farFrom := goodIn_r _ [42, 11, 9, 65, 66, 67, 68, 69, 70, 71, 72, 73, 74, 75, 76, 77, 78, 79, 80, 81, 82, 83, 84, 85, 86] (by decide +kernel) (by decide +kernel)
set_option maxRecDepth 20000 in
theorem gX9_say_X9_farFrom : GoodIn wsX9_say (wsV RX9 99 RX9 yX9_farFrom wsX9_farFrom) := goodIn_app (goodIn_of _ (by decide +kernel)) ggX9_say_X9_farFrom
set_option maxRecDepth 20000 in
theorem ggX9_say_X9_sayWay : GoodIn wsX9_say wsX9_sayWay := goodIn_r _ [46, 1, 47, 48, 49, 50, 51, 7, 52, 9, 17, 18, 19, 20, 21, 22, 13, 14, 15, 16, 65, 66, 67, 68, 69, 70, 71, 72, 73, 74, 75, 76, 77, 78, 79, 80, 81, 82, 83, 84, 85, 86] (by decide +kernel) (by decide +kernel)
set_option maxRecDepth 20000 in
theorem gX9_say_X9_sayWay : GoodIn wsX9_say (wsV RX9 201 RX9 yX9_sayWay wsX9_sayWay) := goodIn_app (goodIn_of _ (by decide +kernel)) ggX9_say_X9_sayWay
set_option maxRecDepth 20000 in
theorem ggX9_say_X9_manyWithin : GoodIn wsX9_say wsX9_manyWithin := goodIn_r _ [56, 10, 12, 39, 40, 41, 7, 42, 11, 9, 65, 66, 67, 68, 69, 70, 71, 72, 73, 74, 75, 76, 77, 78, 79, 80, 81, 82, 83, 84, 85, 86] (by decide +kernel) (by decide +kernel)
set_option maxRecDepth 20000 in
theorem gX9_say_X9_manyWithin : GoodIn wsX9_say (wsV RX9 126 RX9 yX9_manyWithin wsX9_manyWithin) := goodIn_app (goodIn_of _ (by decide +kernel)) ggX9_say_X9_manyWithin
set_option maxRecDepth 20000 in
theorem ggX9_say_X9_sayAll : GoodIn wsX9_say wsX9_sayAll := goodIn_r _ [60, 10, 12, 17, 18, 19, 7, 20, 21, 22, 13, 14, 15, 16, 65, 66, 67, 68, 69, 70, 71, 72, 73, 74, 75, 76, 77, 78, 79, 80, 81, 82, 83, 84, 85, 86] (by decide +kernel) (by decide +kernel)
set_option maxRecDepth 20000 in
theorem gX9_say_X9_sayAll : GoodIn wsX9_say (wsV RX9 204 RX9 yX9_sayAll wsX9_sayAll) := goodIn_app (goodIn_of _ (by decide +kernel)) ggX9_say_X9_sayAll
set_option maxRecDepth 20000 in
theorem ggX9_say_X9_sumOfOpen : GoodIn wsX9_say wsX9_sumOfOpen := goodIn_r _ [64, 10, 12, 39, 40, 41, 7, 42, 11, 9, 65, 66, 67, 68, 69, 70, 71, 72, 73, 74, 75, 76, 77, 78, 79, 80, 81, 82, 83, 84, 85, 86] (by decide +kernel) (by decide +kernel)
set_option maxRecDepth 20000 in
theorem gX9_say_X9_sumOfOpen : GoodIn wsX9_say (wsV RX9 129 RX9 yX9_sumOfOpen wsX9_sumOfOpen) := goodIn_app (goodIn_of _ (by decide +kernel)) ggX9_say_X9_sumOfOpen
theorem dX9_say_0 : decode cX9_say 0 = .ok (.aload_n 0, 1) := by decide +kernel
theorem dX9_say_1 : decode cX9_say 1 = .ok (.getfield 32, 3) := by decide +kernel
theorem dX9_say_4 : decode cX9_say 4 = .ok (.iconst 0, 1) := by decide +kernel
theorem dX9_say_5 : decode cX9_say 5 = .ok (.iaload, 1) := by decide +kernel
theorem dX9_say_6 : decode cX9_say 6 = .ok (.istore_n 1, 1) := by decide +kernel
theorem dX9_say_7 : decode cX9_say 7 = .ok (.aload_n 0, 1) := by decide +kernel
theorem dX9_say_8 : decode cX9_say 8 = .ok (.getfield 32, 3) := by decide +kernel
theorem dX9_say_11 : decode cX9_say 11 = .ok (.iconst 1, 1) := by decide +kernel
theorem dX9_say_12 : decode cX9_say 12 = .ok (.iaload, 1) := by decide +kernel
theorem dX9_say_13 : decode cX9_say 13 = .ok (.istore_n 2, 1) := by decide +kernel
theorem dX9_say_14 : decode cX9_say 14 = .ok (.aload_n 0, 1) := by decide +kernel
theorem dX9_say_15 : decode cX9_say 15 = .ok (.getfield 169, 3) := by decide +kernel
theorem dX9_say_18 : decode cX9_say 18 = .ok (.lookupswitch 181 #[(1156, 82), (1420, 174), (6194, 141), (23609, 154), (463922, 134), (508078, 95), (605220, 121), (631476, 95), (781852974, 161)], 82) := by decide +kernel
theorem dX9_say_100 : decode cX9_say 100 = .ok (.aload_n 0, 1) := by decide +kernel
theorem dX9_say_101 : decode cX9_say 101 = .ok (.aload_n 0, 1) := by decide +kernel
theorem dX9_say_102 : decode cX9_say 102 = .ok (.iload_n 1, 1) := by decide +kernel
theorem dX9_say_103 : decode cX9_say 103 = .ok (.iload_n 2, 1) := by decide +kernel
theorem dX9_say_104 : decode cX9_say 104 = .ok (.invokevirtual 62, 3) := by decide +kernel
theorem dX9_say_107 : decode cX9_say 107 = .ok (.invokevirtual 194, 3) := by decide +kernel
theorem dX9_say_110 : decode cX9_say 110 = .ok (.goto 98, 3) := by decide +kernel
theorem dX9_say_113 : decode cX9_say 113 = .ok (.aload_n 0, 1) := by decide +kernel
theorem dX9_say_114 : decode cX9_say 114 = .ok (.aload_n 0, 1) := by decide +kernel
theorem dX9_say_115 : decode cX9_say 115 = .ok (.iload_n 1, 1) := by decide +kernel
theorem dX9_say_116 : decode cX9_say 116 = .ok (.aload_n 0, 1) := by decide +kernel
theorem dX9_say_117 : decode cX9_say 117 = .ok (.getfield 169, 3) := by decide +kernel
theorem dX9_say_120 : decode cX9_say 120 = .ok (.ldc 197, 2) := by decide +kernel
theorem dX9_say_122 : decode cX9_say 122 = .ok (.if_icmp .ne 7, 3) := by decide +kernel
theorem dX9_say_125 : decode cX9_say 125 = .ok (.iconst 1, 1) := by decide +kernel
theorem dX9_say_126 : decode cX9_say 126 = .ok (.goto 4, 3) := by decide +kernel
theorem dX9_say_129 : decode cX9_say 129 = .ok (.iconst 0, 1) := by decide +kernel
theorem dX9_say_130 : decode cX9_say 130 = .ok (.invokevirtual 66, 3) := by decide +kernel
theorem dX9_say_133 : decode cX9_say 133 = .ok (.invokevirtual 194, 3) := by decide +kernel
theorem dX9_say_136 : decode cX9_say 136 = .ok (.goto 72, 3) := by decide +kernel
theorem dX9_say_139 : decode cX9_say 139 = .ok (.aload_n 0, 1) := by decide +kernel
theorem dX9_say_140 : decode cX9_say 140 = .ok (.aload_n 0, 1) := by decide +kernel
theorem dX9_say_141 : decode cX9_say 141 = .ok (.iload_n 1, 1) := by decide +kernel
theorem dX9_say_142 : decode cX9_say 142 = .ok (.iload_n 2, 1) := by decide +kernel
theorem dX9_say_143 : decode cX9_say 143 = .ok (.invokevirtual 70, 3) := by decide +kernel
theorem dX9_say_146 : decode cX9_say 146 = .ok (.invokevirtual 194, 3) := by decide +kernel
theorem dX9_say_149 : decode cX9_say 149 = .ok (.goto 59, 3) := by decide +kernel
theorem dX9_say_152 : decode cX9_say 152 = .ok (.aload_n 0, 1) := by decide +kernel
theorem dX9_say_153 : decode cX9_say 153 = .ok (.invokevirtual 198, 3) := by decide +kernel
theorem dX9_say_156 : decode cX9_say 156 = .ok (.goto 52, 3) := by decide +kernel
theorem dX9_say_159 : decode cX9_say 159 = .ok (.aload_n 0, 1) := by decide +kernel
theorem dX9_say_160 : decode cX9_say 160 = .ok (.aload_n 0, 1) := by decide +kernel
theorem dX9_say_161 : decode cX9_say 161 = .ok (.iload_n 1, 1) := by decide +kernel
theorem dX9_say_162 : decode cX9_say 162 = .ok (.iload_n 2, 1) := by decide +kernel
theorem dX9_say_163 : decode cX9_say 163 = .ok (.invokevirtual 99, 3) := by decide +kernel
theorem dX9_say_166 : decode cX9_say 166 = .ok (.invokevirtual 194, 3) := by decide +kernel
theorem dX9_say_169 : decode cX9_say 169 = .ok (.goto 39, 3) := by decide +kernel
theorem dX9_say_172 : decode cX9_say 172 = .ok (.aload_n 0, 1) := by decide +kernel
theorem dX9_say_173 : decode cX9_say 173 = .ok (.invokevirtual 201, 3) := by decide +kernel
theorem dX9_say_176 : decode cX9_say 176 = .ok (.goto 32, 3) := by decide +kernel
theorem dX9_say_179 : decode cX9_say 179 = .ok (.aload_n 0, 1) := by decide +kernel
theorem dX9_say_180 : decode cX9_say 180 = .ok (.aload_n 0, 1) := by decide +kernel
theorem dX9_say_181 : decode cX9_say 181 = .ok (.iload_n 1, 1) := by decide +kernel
theorem dX9_say_182 : decode cX9_say 182 = .ok (.iload_n 2, 1) := by decide +kernel
theorem dX9_say_183 : decode cX9_say 183 = .ok (.invokevirtual 126, 3) := by decide +kernel
theorem dX9_say_186 : decode cX9_say 186 = .ok (.invokevirtual 194, 3) := by decide +kernel
theorem dX9_say_189 : decode cX9_say 189 = .ok (.goto 19, 3) := by decide +kernel
theorem dX9_say_192 : decode cX9_say 192 = .ok (.aload_n 0, 1) := by decide +kernel
theorem dX9_say_193 : decode cX9_say 193 = .ok (.invokevirtual 204, 3) := by decide +kernel
theorem dX9_say_196 : decode cX9_say 196 = .ok (.goto 12, 3) := by decide +kernel
theorem dX9_say_199 : decode cX9_say 199 = .ok (.aload_n 0, 1) := by decide +kernel
theorem dX9_say_200 : decode cX9_say 200 = .ok (.aload_n 0, 1) := by decide +kernel
theorem dX9_say_201 : decode cX9_say 201 = .ok (.iload_n 1, 1) := by decide +kernel
theorem dX9_say_202 : decode cX9_say 202 = .ok (.invokevirtual 129, 3) := by decide +kernel
theorem dX9_say_205 : decode cX9_say 205 = .ok (.invokevirtual 194, 3) := by decide +kernel
theorem dX9_say_208 : decode cX9_say 208 = .ok (.return_, 1) := by decide +kernel
set_option maxRecDepth 20000 in
theorem ggX9_says_X9_isMore : GoodIn wsX9_says wsX9_isMore := goodIn_r _ [10, 1, 11, 12, 111, 112, 113, 114, 115, 116, 117, 118, 119, 120, 121, 122, 123, 124, 125, 126, 127, 128, 129, 130, 131, 132] (by decide +kernel) (by decide +kernel)
set_option maxRecDepth 20000 in
theorem gX9_says_X9_isMore : GoodIn wsX9_says (wsV RX9 207 RX9 yX9_isMore wsX9_isMore) := goodIn_app (goodIn_of _ (by decide +kernel)) ggX9_says_X9_isMore
set_option maxRecDepth 20000 in
theorem ggX9_says_X9_isSentence : GoodIn wsX9_says wsX9_isSentence := goodIn_r _ [16, 17, 18, 19, 3, 20, 21, 22, 23, 9, 24, 1, 11, 12, 4, 25, 26, 27, 28, 29, 30, 31, 32, 33, 34, 35, 36, 37, 38, 39, 40, 41, 42, 43, 44, 45, 46, 47, 111, 112, 113, 114, 115, 116, 117, 118, 119, 120, 121, 122, 123, 124, 125, 126, 127, 128, 129, 130, 131, 132] (by decide +kernel) (by decide +kernel)
set_option maxRecDepth 20000 in
theorem gX9_says_X9_isSentence : GoodIn wsX9_says (wsV RX9 211 RX9 yX9_isSentence wsX9_isSentence) := goodIn_app (goodIn_of _ (by decide +kernel)) ggX9_says_X9_isSentence
set_option maxRecDepth 20000 in
theorem ggX9_says_X9_putSign : GoodIn wsX9_says wsX9_putSign := goodIn_r _ [51, 5, 52, 111, 112, 113, 114, 115, 116, 117, 118, 119, 120, 121, 122, 123, 124, 125, 126, 127, 128, 129, 130, 131, 132] (by decide +kernel) (by decide +kernel)
set_option maxRecDepth 20000 in
theorem gX9_says_X9_putSign : GoodIn wsX9_says (wsV RX9 190 RX9 yX9_putSign wsX9_putSign) := goodIn_app (goodIn_of _ (by decide +kernel)) ggX9_says_X9_putSign
set_option maxRecDepth 20000 in
theorem ggX9_says_X9_say : GoodIn wsX9_says wsX9_say := goodIn_r _ [56, 20, 18, 57, 58, 59, 60, 9, 61, 62, 2, 63, 64, 65, 66, 67, 68, 48, 49, 50, 51, 5, 52, 69, 70, 71, 72, 73, 74, 75, 76, 77, 78, 79, 80, 81, 82, 83, 84, 85, 86, 87, 88, 89, 90, 91, 92, 93, 94, 95, 96, 97, 98, 99, 100, 101, 102, 103, 104, 105, 106, 107, 108, 109, 110, 111, 112, 113, 114, 115, 116, 117, 118, 119, 120, 121, 122, 123, 124, 125, 126, 127, 128, 129, 130, 131, 132] (by decide +kernel) (by decide +kernel)
set_option maxRecDepth 20000 in
theorem gX9_says_X9_say : GoodIn wsX9_says (wsV RX9 214 RX9 yX9_say wsX9_say) := goodIn_app (goodIn_of _ (by decide +kernel)) ggX9_says_X9_say
theorem dX9_says_0 : decode cX9_says 0 = .ok (.aload_n 0, 1) := by decide +kernel
theorem dX9_says_1 : decode cX9_says 1 = .ok (.iconst 0, 1) := by decide +kernel
theorem dX9_says_2 : decode cX9_says 2 = .ok (.putfield 151, 3) := by decide +kernel
theorem dX9_says_5 : decode cX9_says 5 = .ok (.aload_n 0, 1) := by decide +kernel
theorem dX9_says_6 : decode cX9_says 6 = .ok (.aload_n 0, 1) := by decide +kernel
theorem dX9_says_7 : decode cX9_says 7 = .ok (.getfield 35, 3) := by decide +kernel
theorem dX9_says_10 : decode cX9_says 10 = .ok (.putfield 173, 3) := by decide +kernel
theorem dX9_says_13 : decode cX9_says 13 = .ok (.iconst 0, 1) := by decide +kernel
theorem dX9_says_14 : decode cX9_says 14 = .ok (.istore_n 1, 1) := by decide +kernel
theorem dX9_says_15 : decode cX9_says 15 = .ok (.iload_n 1, 1) := by decide +kernel
theorem dX9_says_16 : decode cX9_says 16 = .ok (.ifCond .eq 10, 3) := by decide +kernel
theorem dX9_says_19 : decode cX9_says 19 = .ok (.aload_n 0, 1) := by decide +kernel
theorem dX9_says_20 : decode cX9_says 20 = .ok (.invokevirtual 207, 3) := by decide +kernel
theorem dX9_says_23 : decode cX9_says 23 = .ok (.ifCond .eq 24, 3) := by decide +kernel
theorem dX9_says_26 : decode cX9_says 26 = .ok (.aload_n 0, 1) := by decide +kernel
theorem dX9_says_27 : decode cX9_says 27 = .ok (.invokevirtual 211, 3) := by decide +kernel
theorem dX9_says_30 : decode cX9_says 30 = .ok (.ifCond .ne 11, 3) := by decide +kernel
theorem dX9_says_33 : decode cX9_says 33 = .ok (.bipush (-10), 2) := by decide +kernel
theorem dX9_says_35 : decode cX9_says 35 = .ok (.aload_n 0, 1) := by decide +kernel
theorem dX9_says_36 : decode cX9_says 36 = .ok (.getfield 154, 3) := by decide +kernel
theorem dX9_says_39 : decode cX9_says 39 = .ok (.isub, 1) := by decide +kernel
theorem dX9_says_40 : decode cX9_says 40 = .ok (.ireturn, 1) := by decide +kernel
theorem dX9_says_41 : decode cX9_says 41 = .ok (.iinc 1 1, 3) := by decide +kernel
theorem dX9_says_44 : decode cX9_says 44 = .ok (.goto (-29), 3) := by decide +kernel
theorem dX9_says_47 : decode cX9_says 47 = .ok (.aload_n 0, 1) := by decide +kernel
theorem dX9_says_48 : decode cX9_says 48 = .ok (.iconst 0, 1) := by decide +kernel
theorem dX9_says_49 : decode cX9_says 49 = .ok (.putfield 151, 3) := by decide +kernel
theorem dX9_says_52 : decode cX9_says 52 = .ok (.aload_n 0, 1) := by decide +kernel
theorem dX9_says_53 : decode cX9_says 53 = .ok (.aload_n 0, 1) := by decide +kernel
theorem dX9_says_54 : decode cX9_says 54 = .ok (.getfield 35, 3) := by decide +kernel
theorem dX9_says_57 : decode cX9_says 57 = .ok (.putfield 173, 3) := by decide +kernel
theorem dX9_says_60 : decode cX9_says 60 = .ok (.aload_n 0, 1) := by decide +kernel
theorem dX9_says_61 : decode cX9_says 61 = .ok (.iconst 0, 1) := by decide +kernel
theorem dX9_says_62 : decode cX9_says 62 = .ok (.putfield 187, 3) := by decide +kernel
theorem dX9_says_65 : decode cX9_says 65 = .ok (.iconst 0, 1) := by decide +kernel
theorem dX9_says_66 : decode cX9_says 66 = .ok (.istore_n 2, 1) := by decide +kernel
theorem dX9_says_67 : decode cX9_says 67 = .ok (.iload_n 2, 1) := by decide +kernel
theorem dX9_says_68 : decode cX9_says 68 = .ok (.iload_n 1, 1) := by decide +kernel
theorem dX9_says_69 : decode cX9_says 69 = .ok (.if_icmp .ge 28, 3) := by decide +kernel
theorem dX9_says_72 : decode cX9_says 72 = .ok (.aload_n 0, 1) := by decide +kernel
theorem dX9_says_73 : decode cX9_says 73 = .ok (.invokevirtual 211, 3) := by decide +kernel
theorem dX9_says_76 : decode cX9_says 76 = .ok (.pop, 1) := by decide +kernel
theorem dX9_says_77 : decode cX9_says 77 = .ok (.iload_n 2, 1) := by decide +kernel
theorem dX9_says_78 : decode cX9_says 78 = .ok (.ifCond .le 9, 3) := by decide +kernel
theorem dX9_says_81 : decode cX9_says 81 = .ok (.aload_n 0, 1) := by decide +kernel
theorem dX9_says_82 : decode cX9_says 82 = .ok (.bipush 32, 2) := by decide +kernel
theorem dX9_says_84 : decode cX9_says 84 = .ok (.invokevirtual 190, 3) := by decide +kernel
theorem dX9_says_87 : decode cX9_says 87 = .ok (.aload_n 0, 1) := by decide +kernel
theorem dX9_says_88 : decode cX9_says 88 = .ok (.invokevirtual 214, 3) := by decide +kernel
theorem dX9_says_91 : decode cX9_says 91 = .ok (.iinc 2 1, 3) := by decide +kernel
theorem dX9_says_94 : decode cX9_says 94 = .ok (.goto (-27), 3) := by decide +kernel
theorem dX9_says_97 : decode cX9_says 97 = .ok (.iload_n 1, 1) := by decide +kernel
theorem dX9_says_98 : decode cX9_says 98 = .ok (.ireturn, 1) := by decide +kernel
set_option maxRecDepth 20000 in
theorem ggX9_answer_X9_refuse : GoodIn wsX9_answer wsX9_refuse := goodIn_r _ [7, 8, 9, 10, 11, 12, 13, 14, 15, 16, 17, 18, 19, 20, 21, 22, 23, 24, 25, 26, 27, 28, 29, 30] (by decide +kernel) (by decide +kernel)
set_option maxRecDepth 20000 in
theorem gX9_answer_X9_refuse : GoodIn wsX9_answer (wsV RX9 55 RX9 yX9_refuse wsX9_refuse) := goodIn_app (goodIn_of _ (by decide +kernel)) ggX9_answer_X9_refuse
theorem dX9_answer_0 : decode cX9_answer 0 = .ok (.iload_n 1, 1) := by decide +kernel
theorem dX9_answer_1 : decode cX9_answer 1 = .ok (.iconst (-1), 1) := by decide +kernel
theorem dX9_answer_2 : decode cX9_answer 2 = .ok (.if_icmp .ge 11, 3) := by decide +kernel
theorem dX9_answer_5 : decode cX9_answer 5 = .ok (.aload_n 0, 1) := by decide +kernel
theorem dX9_answer_6 : decode cX9_answer 6 = .ok (.invokevirtual 55, 3) := by decide +kernel
theorem dX9_answer_9 : decode cX9_answer 9 = .ok (.pop, 1) := by decide +kernel
theorem dX9_answer_10 : decode cX9_answer 10 = .ok (.bipush (-10), 2) := by decide +kernel
theorem dX9_answer_12 : decode cX9_answer 12 = .ok (.ireturn, 1) := by decide +kernel
theorem dX9_answer_13 : decode cX9_answer 13 = .ok (.iload_n 1, 1) := by decide +kernel
theorem dX9_answer_14 : decode cX9_answer 14 = .ok (.iconst (-1), 1) := by decide +kernel
theorem dX9_answer_15 : decode cX9_answer 15 = .ok (.if_icmp .ne 10, 3) := by decide +kernel
theorem dX9_answer_18 : decode cX9_answer 18 = .ok (.aload_n 0, 1) := by decide +kernel
theorem dX9_answer_19 : decode cX9_answer 19 = .ok (.getfield 187, 3) := by decide +kernel
theorem dX9_answer_22 : decode cX9_answer 22 = .ok (.goto 22, 3) := by decide +kernel
theorem dX9_answer_25 : decode cX9_answer 25 = .ok (.iload_n 1, 1) := by decide +kernel
theorem dX9_answer_26 : decode cX9_answer 26 = .ok (.aload_n 0, 1) := by decide +kernel
theorem dX9_answer_27 : decode cX9_answer 27 = .ok (.getfield 187, 3) := by decide +kernel
theorem dX9_answer_30 : decode cX9_answer 30 = .ok (.if_icmp .ge 12, 3) := by decide +kernel
theorem dX9_answer_33 : decode cX9_answer 33 = .ok (.aload_n 0, 1) := by decide +kernel
theorem dX9_answer_34 : decode cX9_answer 34 = .ok (.getfield 23, 3) := by decide +kernel
theorem dX9_answer_37 : decode cX9_answer 37 = .ok (.iload_n 1, 1) := by decide +kernel
theorem dX9_answer_38 : decode cX9_answer 38 = .ok (.iaload, 1) := by decide +kernel
theorem dX9_answer_39 : decode cX9_answer 39 = .ok (.goto 5, 3) := by decide +kernel
theorem dX9_answer_42 : decode cX9_answer 42 = .ok (.bipush (-5), 2) := by decide +kernel
theorem dX9_answer_44 : decode cX9_answer 44 = .ok (.ireturn, 1) := by decide +kernel
set_option maxRecDepth 20000 in
theorem ggX9_tell_X9_openMany : GoodIn wsX9_tell wsX9_openMany := goodIn_r _ [10, 4, 11, 12, 13, 14, 15, 16, 17, 18, 19, 20, 21, 22, 23, 24, 25, 26, 27, 28, 29, 30, 31, 32, 33] (by decide +kernel) (by decide +kernel)
set_option maxRecDepth 20000 in
theorem gX9_tell_X9_openMany : GoodIn wsX9_tell (wsV RX9 217 RX9 yX9_openMany wsX9_openMany) := goodIn_app (goodIn_of _ (by decide +kernel)) ggX9_tell_X9_openMany
theorem dX9_tell_0 : decode cX9_tell 0 = .ok (.iload_n 1, 1) := by decide +kernel
theorem dX9_tell_1 : decode cX9_tell 1 = .ok (.tableswitch 66 0 5 #[39, 44, 46, 51, 56, 61], 39) := by decide +kernel
theorem dX9_tell_40 : decode cX9_tell 40 = .ok (.aload_n 0, 1) := by decide +kernel
theorem dX9_tell_41 : decode cX9_tell 41 = .ok (.getfield 43, 3) := by decide +kernel
theorem dX9_tell_44 : decode cX9_tell 44 = .ok (.ireturn, 1) := by decide +kernel
theorem dX9_tell_45 : decode cX9_tell 45 = .ok (.iconst 0, 1) := by decide +kernel
theorem dX9_tell_46 : decode cX9_tell 46 = .ok (.ireturn, 1) := by decide +kernel
theorem dX9_tell_47 : decode cX9_tell 47 = .ok (.aload_n 0, 1) := by decide +kernel
theorem dX9_tell_48 : decode cX9_tell 48 = .ok (.getfield 46, 3) := by decide +kernel
theorem dX9_tell_51 : decode cX9_tell 51 = .ok (.ireturn, 1) := by decide +kernel
theorem dX9_tell_52 : decode cX9_tell 52 = .ok (.aload_n 0, 1) := by decide +kernel
theorem dX9_tell_53 : decode cX9_tell 53 = .ok (.getfield 140, 3) := by decide +kernel
theorem dX9_tell_56 : decode cX9_tell 56 = .ok (.ireturn, 1) := by decide +kernel
theorem dX9_tell_57 : decode cX9_tell 57 = .ok (.aload_n 0, 1) := by decide +kernel
theorem dX9_tell_58 : decode cX9_tell 58 = .ok (.getfield 35, 3) := by decide +kernel
theorem dX9_tell_61 : decode cX9_tell 61 = .ok (.ireturn, 1) := by decide +kernel
theorem dX9_tell_62 : decode cX9_tell 62 = .ok (.aload_n 0, 1) := by decide +kernel
theorem dX9_tell_63 : decode cX9_tell 63 = .ok (.invokevirtual 217, 3) := by decide +kernel
theorem dX9_tell_66 : decode cX9_tell 66 = .ok (.ireturn, 1) := by decide +kernel
theorem dX9_tell_67 : decode cX9_tell 67 = .ok (.aload_n 0, 1) := by decide +kernel
theorem dX9_tell_68 : decode cX9_tell 68 = .ok (.getfield 187, 3) := by decide +kernel
theorem dX9_tell_71 : decode cX9_tell 71 = .ok (.ireturn, 1) := by decide +kernel
set_option maxRecDepth 20000 in
theorem ggX9_told_X9_in : GoodIn wsX9_told wsX9_in := goodIn_r _ [5] (by decide +kernel) (by decide +kernel)
set_option maxRecDepth 20000 in
theorem gX9_told_X9_in : GoodIn wsX9_told (va_wsS RX9 39 yX9_in wsX9_in) := goodIn_app (goodIn_of _ (by decide +kernel)) ggX9_told_X9_in
set_option maxRecDepth 20000 in
theorem ggX9_told_X9_tell : GoodIn wsX9_told wsX9_tell := goodIn_r _ [9, 10, 11, 12, 13, 14, 15, 16, 17, 4, 18, 19, 24, 25, 26, 27, 28, 29, 30, 31, 32, 33, 34, 35, 36, 37, 38, 39, 40, 41, 42, 43, 44, 45] (by decide +kernel) (by decide +kernel)
set_option maxRecDepth 20000 in
theorem gX9_told_X9_tell : GoodIn wsX9_told (wsV RX9 222 RX9 yX9_tell wsX9_tell) := goodIn_app (goodIn_of _ (by decide +kernel)) ggX9_told_X9_tell
set_option maxRecDepth 20000 in
theorem ggX9_told_X9_refuse : GoodIn wsX9_told wsX9_refuse := goodIn_r _ [23, 10, 24, 25, 26, 27, 28, 29, 30, 31, 32, 33, 34, 35, 36, 37, 38, 39, 40, 41, 42, 43, 44, 45] (by decide +kernel) (by decide +kernel)
set_option maxRecDepth 20000 in
theorem gX9_told_X9_refuse : GoodIn wsX9_told (wsV RX9 55 RX9 yX9_refuse wsX9_refuse) := goodIn_app (goodIn_of _ (by decide +kernel)) ggX9_told_X9_refuse
theorem dX9_told_0 : decode cX9_told 0 = .ok (.iload_n 1, 1) := by decide +kernel
theorem dX9_told_1 : decode cX9_told 1 = .ok (.i2l, 1) := by decide +kernel
theorem dX9_told_2 : decode cX9_told 2 = .ok (.lconst 0, 1) := by decide +kernel
theorem dX9_told_3 : decode cX9_told 3 = .ok (.ldc2_w 220, 3) := by decide +kernel
theorem dX9_told_6 : decode cX9_told 6 = .ok (.invokestatic 39, 3) := by decide +kernel
theorem dX9_told_9 : decode cX9_told 9 = .ok (.ifCond .eq 11, 3) := by decide +kernel
theorem dX9_told_12 : decode cX9_told 12 = .ok (.aload_n 0, 1) := by decide +kernel
theorem dX9_told_13 : decode cX9_told 13 = .ok (.iload_n 1, 1) := by decide +kernel
theorem dX9_told_14 : decode cX9_told 14 = .ok (.invokevirtual 222, 3) := by decide +kernel
theorem dX9_told_17 : decode cX9_told 17 = .ok (.goto 7, 3) := by decide +kernel
theorem dX9_told_20 : decode cX9_told 20 = .ok (.aload_n 0, 1) := by decide +kernel
theorem dX9_told_21 : decode cX9_told 21 = .ok (.invokevirtual 55, 3) := by decide +kernel
theorem dX9_told_24 : decode cX9_told 24 = .ok (.ireturn, 1) := by decide +kernel
set_option maxRecDepth 20000 in
theorem ggX9_digest_X9_tell : GoodIn wsX9_digest wsX9_tell := goodIn_r _ [10, 11, 12, 13, 3, 4, 14, 15, 16, 9, 17, 18, 25, 26, 27, 28, 29, 30, 31, 32, 33, 34, 35, 36, 37, 38, 39, 40, 41, 42, 43, 44, 45, 46] (by decide +kernel) (by decide +kernel)
set_option maxRecDepth 20000 in
theorem gX9_digest_X9_tell : GoodIn wsX9_digest (wsV RX9 222 RX9 yX9_tell wsX9_tell) := goodIn_app (goodIn_of _ (by decide +kernel)) ggX9_digest_X9_tell
set_option maxRecDepth 20000 in
theorem ggX9_digest_X9_partOf : GoodIn wsX9_digest wsX9_partOf := goodIn_r _ [22, 23, 24, 18, 25, 26, 27, 28, 29, 30, 31, 32, 33, 34, 35, 36, 37, 38, 39, 40, 41, 42, 43, 44, 45, 46] (by decide +kernel) (by decide +kernel)
set_option maxRecDepth 20000 in
theorem gX9_digest_X9_partOf : GoodIn wsX9_digest (wsV RX9 96 RX9 yX9_partOf wsX9_partOf) := goodIn_app (goodIn_of _ (by decide +kernel)) ggX9_digest_X9_partOf
theorem dX9_digest_0 : decode cX9_digest 0 = .ok (.ldc2_w 225, 3) := by decide +kernel
theorem dX9_digest_3 : decode cX9_digest 3 = .ok (.lstore_n 1, 1) := by decide +kernel
theorem dX9_digest_4 : decode cX9_digest 4 = .ok (.iconst 0, 1) := by decide +kernel
theorem dX9_digest_5 : decode cX9_digest 5 = .ok (.istore_n 3, 1) := by decide +kernel
theorem dX9_digest_6 : decode cX9_digest 6 = .ok (.iload_n 3, 1) := by decide +kernel
theorem dX9_digest_7 : decode cX9_digest 7 = .ok (.bipush 7, 2) := by decide +kernel
theorem dX9_digest_9 : decode cX9_digest 9 = .ok (.if_icmp .ge 22, 3) := by decide +kernel
theorem dX9_digest_12 : decode cX9_digest 12 = .ok (.ldc2_w 227, 3) := by decide +kernel
theorem dX9_digest_15 : decode cX9_digest 15 = .ok (.lload_n 1, 1) := by decide +kernel
theorem dX9_digest_16 : decode cX9_digest 16 = .ok (.lmul, 1) := by decide +kernel
theorem dX9_digest_17 : decode cX9_digest 17 = .ok (.aload_n 0, 1) := by decide +kernel
theorem dX9_digest_18 : decode cX9_digest 18 = .ok (.iload_n 3, 1) := by decide +kernel
theorem dX9_digest_19 : decode cX9_digest 19 = .ok (.invokevirtual 222, 3) := by decide +kernel
theorem dX9_digest_22 : decode cX9_digest 22 = .ok (.i2l, 1) := by decide +kernel
theorem dX9_digest_23 : decode cX9_digest 23 = .ok (.ladd, 1) := by decide +kernel
theorem dX9_digest_24 : decode cX9_digest 24 = .ok (.lstore_n 1, 1) := by decide +kernel
theorem dX9_digest_25 : decode cX9_digest 25 = .ok (.iinc 3 1, 3) := by decide +kernel
theorem dX9_digest_28 : decode cX9_digest 28 = .ok (.goto (-22), 3) := by decide +kernel
theorem dX9_digest_31 : decode cX9_digest 31 = .ok (.iconst 0, 1) := by decide +kernel
theorem dX9_digest_32 : decode cX9_digest 32 = .ok (.istore_n 3, 1) := by decide +kernel
theorem dX9_digest_33 : decode cX9_digest 33 = .ok (.iload_n 3, 1) := by decide +kernel
theorem dX9_digest_34 : decode cX9_digest 34 = .ok (.aload_n 0, 1) := by decide +kernel
theorem dX9_digest_35 : decode cX9_digest 35 = .ok (.getfield 35, 3) := by decide +kernel
theorem dX9_digest_38 : decode cX9_digest 38 = .ok (.if_icmp .ge 39, 3) := by decide +kernel
theorem dX9_digest_41 : decode cX9_digest 41 = .ok (.iconst 0, 1) := by decide +kernel
theorem dX9_digest_42 : decode cX9_digest 42 = .ok (.istore 4, 2) := by decide +kernel
theorem dX9_digest_44 : decode cX9_digest 44 = .ok (.iload 4, 2) := by decide +kernel
theorem dX9_digest_46 : decode cX9_digest 46 = .ok (.iconst 3, 1) := by decide +kernel
theorem dX9_digest_47 : decode cX9_digest 47 = .ok (.if_icmp .ge 24, 3) := by decide +kernel
theorem dX9_digest_50 : decode cX9_digest 50 = .ok (.ldc2_w 227, 3) := by decide +kernel
theorem dX9_digest_53 : decode cX9_digest 53 = .ok (.lload_n 1, 1) := by decide +kernel
theorem dX9_digest_54 : decode cX9_digest 54 = .ok (.lmul, 1) := by decide +kernel
theorem dX9_digest_55 : decode cX9_digest 55 = .ok (.aload_n 0, 1) := by decide +kernel
theorem dX9_digest_56 : decode cX9_digest 56 = .ok (.iload_n 3, 1) := by decide +kernel
theorem dX9_digest_57 : decode cX9_digest 57 = .ok (.iload 4, 2) := by decide +kernel
theorem dX9_digest_59 : decode cX9_digest 59 = .ok (.invokevirtual 96, 3) := by decide +kernel
theorem dX9_digest_62 : decode cX9_digest 62 = .ok (.i2l, 1) := by decide +kernel
theorem dX9_digest_63 : decode cX9_digest 63 = .ok (.ladd, 1) := by decide +kernel
theorem dX9_digest_64 : decode cX9_digest 64 = .ok (.lstore_n 1, 1) := by decide +kernel
theorem dX9_digest_65 : decode cX9_digest 65 = .ok (.iinc 4 1, 3) := by decide +kernel
theorem dX9_digest_68 : decode cX9_digest 68 = .ok (.goto (-24), 3) := by decide +kernel
theorem dX9_digest_71 : decode cX9_digest 71 = .ok (.iinc 3 1, 3) := by decide +kernel
theorem dX9_digest_74 : decode cX9_digest 74 = .ok (.goto (-41), 3) := by decide +kernel
theorem dX9_digest_77 : decode cX9_digest 77 = .ok (.iconst 0, 1) := by decide +kernel
theorem dX9_digest_78 : decode cX9_digest 78 = .ok (.istore_n 3, 1) := by decide +kernel
theorem dX9_digest_79 : decode cX9_digest 79 = .ok (.iload_n 3, 1) := by decide +kernel
theorem dX9_digest_80 : decode cX9_digest 80 = .ok (.aload_n 0, 1) := by decide +kernel
theorem dX9_digest_81 : decode cX9_digest 81 = .ok (.getfield 187, 3) := by decide +kernel
theorem dX9_digest_84 : decode cX9_digest 84 = .ok (.if_icmp .ge 23, 3) := by decide +kernel
theorem dX9_digest_87 : decode cX9_digest 87 = .ok (.ldc2_w 227, 3) := by decide +kernel
theorem dX9_digest_90 : decode cX9_digest 90 = .ok (.lload_n 1, 1) := by decide +kernel
theorem dX9_digest_91 : decode cX9_digest 91 = .ok (.lmul, 1) := by decide +kernel
theorem dX9_digest_92 : decode cX9_digest 92 = .ok (.aload_n 0, 1) := by decide +kernel
theorem dX9_digest_93 : decode cX9_digest 93 = .ok (.getfield 23, 3) := by decide +kernel
theorem dX9_digest_96 : decode cX9_digest 96 = .ok (.iload_n 3, 1) := by decide +kernel
theorem dX9_digest_97 : decode cX9_digest 97 = .ok (.iaload, 1) := by decide +kernel
theorem dX9_digest_98 : decode cX9_digest 98 = .ok (.i2l, 1) := by decide +kernel
theorem dX9_digest_99 : decode cX9_digest 99 = .ok (.ladd, 1) := by decide +kernel
theorem dX9_digest_100 : decode cX9_digest 100 = .ok (.lstore_n 1, 1) := by decide +kernel
theorem dX9_digest_101 : decode cX9_digest 101 = .ok (.iinc 3 1, 3) := by decide +kernel
theorem dX9_digest_104 : decode cX9_digest 104 = .ok (.goto (-25), 3) := by decide +kernel
theorem dX9_digest_107 : decode cX9_digest 107 = .ok (.lload_n 1, 1) := by decide +kernel
theorem dX9_digest_108 : decode cX9_digest 108 = .ok (.lreturn, 1) := by decide +kernel
