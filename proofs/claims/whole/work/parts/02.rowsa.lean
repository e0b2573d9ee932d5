theorem dX0_init_0 : decode cX0_init 0 = .ok (.aload_n 0, 1) := by decide +kernel
theorem dX0_init_1 : decode cX0_init 1 = .ok (.invokespecial 3, 3) := by decide +kernel
theorem dX0_init_4 : decode cX0_init 4 = .ok (.aload_n 0, 1) := by decide +kernel
theorem dX0_init_5 : decode cX0_init 5 = .ok (.bipush 60, 2) := by decide +kernel
theorem dX0_init_7 : decode cX0_init 7 = .ok (.newarray .int, 2) := by decide +kernel
theorem dX0_init_9 : decode cX0_init 9 = .ok (.putfield 9, 3) := by decide +kernel
theorem dX0_init_12 : decode cX0_init 12 = .ok (.aload_n 0, 1) := by decide +kernel
theorem dX0_init_13 : decode cX0_init 13 = .ok (.aload_n 1, 1) := by decide +kernel
theorem dX0_init_14 : decode cX0_init 14 = .ok (.putfield 15, 3) := by decide +kernel
theorem dX0_init_17 : decode cX0_init 17 = .ok (.return_, 1) := by decide +kernel
set_option maxRecDepth 20000 in
theorem ggX0_closest_X1_gap : GoodIn wsX0_closest wsX1_gap := goodIn_r _ [9, 10, 13, 14, 15, 16, 17, 18] (by decide +kernel) (by decide +kernel)
set_option maxRecDepth 20000 in
theorem gX0_closest_X1_gap : GoodIn wsX0_closest (wsV RX0 30 RX1 yX1_gap wsX1_gap) := goodIn_app (goodIn_of _ (by decide +kernel)) ggX0_closest_X1_gap
theorem dX0_closest_0 : decode cX0_closest 0 = .ok (.iconst (-1), 1) := by decide +kernel
theorem dX0_closest_1 : decode cX0_closest 1 = .ok (.istore_n 2, 1) := by decide +kernel
theorem dX0_closest_2 : decode cX0_closest 2 = .ok (.ldc 19, 2) := by decide +kernel
theorem dX0_closest_4 : decode cX0_closest 4 = .ok (.istore_n 3, 1) := by decide +kernel
theorem dX0_closest_5 : decode cX0_closest 5 = .ok (.iconst 0, 1) := by decide +kernel
theorem dX0_closest_6 : decode cX0_closest 6 = .ok (.istore 4, 2) := by decide +kernel
theorem dX0_closest_8 : decode cX0_closest 8 = .ok (.iload 4, 2) := by decide +kernel
theorem dX0_closest_10 : decode cX0_closest 10 = .ok (.aload_n 0, 1) := by decide +kernel
theorem dX0_closest_11 : decode cX0_closest 11 = .ok (.getfield 15, 3) := by decide +kernel
theorem dX0_closest_14 : decode cX0_closest 14 = .ok (.getfield 20, 3) := by decide +kernel
theorem dX0_closest_17 : decode cX0_closest 17 = .ok (.if_icmp .ge 50, 3) := by decide +kernel
theorem dX0_closest_20 : decode cX0_closest 20 = .ok (.aload_n 0, 1) := by decide +kernel
theorem dX0_closest_21 : decode cX0_closest 21 = .ok (.getfield 15, 3) := by decide +kernel
theorem dX0_closest_24 : decode cX0_closest 24 = .ok (.getfield 26, 3) := by decide +kernel
theorem dX0_closest_27 : decode cX0_closest 27 = .ok (.iload 4, 2) := by decide +kernel
theorem dX0_closest_29 : decode cX0_closest 29 = .ok (.baload, 1) := by decide +kernel
theorem dX0_closest_30 : decode cX0_closest 30 = .ok (.ifCond .eq 31, 3) := by decide +kernel
theorem dX0_closest_33 : decode cX0_closest 33 = .ok (.aload_n 0, 1) := by decide +kernel
theorem dX0_closest_34 : decode cX0_closest 34 = .ok (.getfield 15, 3) := by decide +kernel
theorem dX0_closest_37 : decode cX0_closest 37 = .ok (.iload_n 1, 1) := by decide +kernel
theorem dX0_closest_38 : decode cX0_closest 38 = .ok (.iload 4, 2) := by decide +kernel
theorem dX0_closest_40 : decode cX0_closest 40 = .ok (.invokevirtual 30, 3) := by decide +kernel
theorem dX0_closest_43 : decode cX0_closest 43 = .ok (.iload_n 3, 1) := by decide +kernel
theorem dX0_closest_44 : decode cX0_closest 44 = .ok (.if_icmp .ge 17, 3) := by decide +kernel
theorem dX0_closest_47 : decode cX0_closest 47 = .ok (.aload_n 0, 1) := by decide +kernel
theorem dX0_closest_48 : decode cX0_closest 48 = .ok (.getfield 15, 3) := by decide +kernel
theorem dX0_closest_51 : decode cX0_closest 51 = .ok (.iload_n 1, 1) := by decide +kernel
theorem dX0_closest_52 : decode cX0_closest 52 = .ok (.iload 4, 2) := by decide +kernel
theorem dX0_closest_54 : decode cX0_closest 54 = .ok (.invokevirtual 30, 3) := by decide +kernel
theorem dX0_closest_57 : decode cX0_closest 57 = .ok (.istore_n 3, 1) := by decide +kernel
theorem dX0_closest_58 : decode cX0_closest 58 = .ok (.iload 4, 2) := by decide +kernel
theorem dX0_closest_60 : decode cX0_closest 60 = .ok (.istore_n 2, 1) := by decide +kernel
theorem dX0_closest_61 : decode cX0_closest 61 = .ok (.iinc 4 1, 3) := by decide +kernel
theorem dX0_closest_64 : decode cX0_closest 64 = .ok (.goto (-56), 3) := by decide +kernel
theorem dX0_closest_67 : decode cX0_closest 67 = .ok (.iload_n 2, 1) := by decide +kernel
theorem dX0_closest_68 : decode cX0_closest 68 = .ok (.ireturn, 1) := by decide +kernel
set_option maxRecDepth 20000 in
theorem ggX0_ranked_X0_countBefore : GoodIn wsX0_ranked wsX0_countBefore := goodIn_r _ [8, 1, 2, 3, 9, 10, 11, 12, 13, 14, 15, 16, 17, 18, 19, 20, 21, 22] (by decide +kernel) (by decide +kernel)
set_option maxRecDepth 20000 in
theorem gX0_ranked_X0_countBefore : GoodIn wsX0_ranked (wsV RX0 34 RX0 yX0_countBefore wsX0_countBefore) := goodIn_app (goodIn_of _ (by decide +kernel)) ggX0_ranked_X0_countBefore
theorem dX0_ranked_0 : decode cX0_ranked 0 = .ok (.iconst 0, 1) := by decide +kernel
theorem dX0_ranked_1 : decode cX0_ranked 1 = .ok (.istore_n 3, 1) := by decide +kernel
theorem dX0_ranked_2 : decode cX0_ranked 2 = .ok (.iload_n 3, 1) := by decide +kernel
theorem dX0_ranked_3 : decode cX0_ranked 3 = .ok (.aload_n 0, 1) := by decide +kernel
theorem dX0_ranked_4 : decode cX0_ranked 4 = .ok (.getfield 15, 3) := by decide +kernel
theorem dX0_ranked_7 : decode cX0_ranked 7 = .ok (.getfield 20, 3) := by decide +kernel
theorem dX0_ranked_10 : decode cX0_ranked 10 = .ok (.if_icmp .ge 33, 3) := by decide +kernel
theorem dX0_ranked_13 : decode cX0_ranked 13 = .ok (.aload_n 0, 1) := by decide +kernel
theorem dX0_ranked_14 : decode cX0_ranked 14 = .ok (.getfield 15, 3) := by decide +kernel
theorem dX0_ranked_17 : decode cX0_ranked 17 = .ok (.getfield 26, 3) := by decide +kernel
theorem dX0_ranked_20 : decode cX0_ranked 20 = .ok (.iload_n 3, 1) := by decide +kernel
theorem dX0_ranked_21 : decode cX0_ranked 21 = .ok (.baload, 1) := by decide +kernel
theorem dX0_ranked_22 : decode cX0_ranked 22 = .ok (.ifCond .eq 15, 3) := by decide +kernel
theorem dX0_ranked_25 : decode cX0_ranked 25 = .ok (.aload_n 0, 1) := by decide +kernel
theorem dX0_ranked_26 : decode cX0_ranked 26 = .ok (.iload_n 1, 1) := by decide +kernel
theorem dX0_ranked_27 : decode cX0_ranked 27 = .ok (.iload_n 3, 1) := by decide +kernel
theorem dX0_ranked_28 : decode cX0_ranked 28 = .ok (.invokevirtual 34, 3) := by decide +kernel
theorem dX0_ranked_31 : decode cX0_ranked 31 = .ok (.iload_n 2, 1) := by decide +kernel
theorem dX0_ranked_32 : decode cX0_ranked 32 = .ok (.if_icmp .ne 5, 3) := by decide +kernel
theorem dX0_ranked_35 : decode cX0_ranked 35 = .ok (.iload_n 3, 1) := by decide +kernel
theorem dX0_ranked_36 : decode cX0_ranked 36 = .ok (.ireturn, 1) := by decide +kernel
theorem dX0_ranked_37 : decode cX0_ranked 37 = .ok (.iinc 3 1, 3) := by decide +kernel
theorem dX0_ranked_40 : decode cX0_ranked 40 = .ok (.goto (-38), 3) := by decide +kernel
theorem dX0_ranked_43 : decode cX0_ranked 43 = .ok (.iconst (-1), 1) := by decide +kernel
theorem dX0_ranked_44 : decode cX0_ranked 44 = .ok (.ireturn, 1) := by decide +kernel
set_option maxRecDepth 20000 in
theorem ggX0_countWithin_X1_gap : GoodIn wsX0_countWithin wsX1_gap := goodIn_r _ [8, 9, 12, 13, 14, 15, 16, 17] (by decide +kernel) (by decide +kernel)
set_option maxRecDepth 20000 in
theorem gX0_countWithin_X1_gap : GoodIn wsX0_countWithin (wsV RX0 30 RX1 yX1_gap wsX1_gap) := goodIn_app (goodIn_of _ (by decide +kernel)) ggX0_countWithin_X1_gap
theorem dX0_countWithin_0 : decode cX0_countWithin 0 = .ok (.iconst 0, 1) := by decide +kernel
theorem dX0_countWithin_1 : decode cX0_countWithin 1 = .ok (.istore_n 3, 1) := by decide +kernel
theorem dX0_countWithin_2 : decode cX0_countWithin 2 = .ok (.iconst 0, 1) := by decide +kernel
theorem dX0_countWithin_3 : decode cX0_countWithin 3 = .ok (.istore 4, 2) := by decide +kernel
theorem dX0_countWithin_5 : decode cX0_countWithin 5 = .ok (.iload 4, 2) := by decide +kernel
theorem dX0_countWithin_7 : decode cX0_countWithin 7 = .ok (.aload_n 0, 1) := by decide +kernel
theorem dX0_countWithin_8 : decode cX0_countWithin 8 = .ok (.getfield 15, 3) := by decide +kernel
theorem dX0_countWithin_11 : decode cX0_countWithin 11 = .ok (.getfield 20, 3) := by decide +kernel
theorem dX0_countWithin_14 : decode cX0_countWithin 14 = .ok (.if_icmp .ge 39, 3) := by decide +kernel
theorem dX0_countWithin_17 : decode cX0_countWithin 17 = .ok (.aload_n 0, 1) := by decide +kernel
theorem dX0_countWithin_18 : decode cX0_countWithin 18 = .ok (.getfield 15, 3) := by decide +kernel
theorem dX0_countWithin_21 : decode cX0_countWithin 21 = .ok (.getfield 26, 3) := by decide +kernel
theorem dX0_countWithin_24 : decode cX0_countWithin 24 = .ok (.iload 4, 2) := by decide +kernel
theorem dX0_countWithin_26 : decode cX0_countWithin 26 = .ok (.baload, 1) := by decide +kernel
theorem dX0_countWithin_27 : decode cX0_countWithin 27 = .ok (.ifCond .eq 20, 3) := by decide +kernel
theorem dX0_countWithin_30 : decode cX0_countWithin 30 = .ok (.aload_n 0, 1) := by decide +kernel
theorem dX0_countWithin_31 : decode cX0_countWithin 31 = .ok (.getfield 15, 3) := by decide +kernel
theorem dX0_countWithin_34 : decode cX0_countWithin 34 = .ok (.iload_n 1, 1) := by decide +kernel
theorem dX0_countWithin_35 : decode cX0_countWithin 35 = .ok (.iload 4, 2) := by decide +kernel
theorem dX0_countWithin_37 : decode cX0_countWithin 37 = .ok (.invokevirtual 30, 3) := by decide +kernel
theorem dX0_countWithin_40 : decode cX0_countWithin 40 = .ok (.iload_n 2, 1) := by decide +kernel
theorem dX0_countWithin_41 : decode cX0_countWithin 41 = .ok (.if_icmp .gt 6, 3) := by decide +kernel
theorem dX0_countWithin_44 : decode cX0_countWithin 44 = .ok (.iinc 3 1, 3) := by decide +kernel
theorem dX0_countWithin_47 : decode cX0_countWithin 47 = .ok (.iinc 4 1, 3) := by decide +kernel
theorem dX0_countWithin_50 : decode cX0_countWithin 50 = .ok (.goto (-45), 3) := by decide +kernel
theorem dX0_countWithin_53 : decode cX0_countWithin 53 = .ok (.iload_n 3, 1) := by decide +kernel
theorem dX0_countWithin_54 : decode cX0_countWithin 54 = .ok (.ireturn, 1) := by decide +kernel
set_option maxRecDepth 20000 in
theorem ggX0_total_X1_gap : GoodIn wsX0_total wsX1_gap := goodIn_r _ [8, 9, 12, 13, 14, 15, 16, 17] (by decide +kernel) (by decide +kernel)
set_option maxRecDepth 20000 in
theorem gX0_total_X1_gap : GoodIn wsX0_total (wsV RX0 30 RX1 yX1_gap wsX1_gap) := goodIn_app (goodIn_of _ (by decide +kernel)) ggX0_total_X1_gap
theorem dX0_total_0 : decode cX0_total 0 = .ok (.iconst 0, 1) := by decide +kernel
theorem dX0_total_1 : decode cX0_total 1 = .ok (.istore_n 2, 1) := by decide +kernel
theorem dX0_total_2 : decode cX0_total 2 = .ok (.iconst 0, 1) := by decide +kernel
theorem dX0_total_3 : decode cX0_total 3 = .ok (.istore_n 3, 1) := by decide +kernel
theorem dX0_total_4 : decode cX0_total 4 = .ok (.iload_n 3, 1) := by decide +kernel
theorem dX0_total_5 : decode cX0_total 5 = .ok (.aload_n 0, 1) := by decide +kernel
theorem dX0_total_6 : decode cX0_total 6 = .ok (.getfield 15, 3) := by decide +kernel
theorem dX0_total_9 : decode cX0_total 9 = .ok (.getfield 20, 3) := by decide +kernel
theorem dX0_total_12 : decode cX0_total 12 = .ok (.if_icmp .ge 33, 3) := by decide +kernel
theorem dX0_total_15 : decode cX0_total 15 = .ok (.aload_n 0, 1) := by decide +kernel
theorem dX0_total_16 : decode cX0_total 16 = .ok (.getfield 15, 3) := by decide +kernel
theorem dX0_total_19 : decode cX0_total 19 = .ok (.getfield 26, 3) := by decide +kernel
theorem dX0_total_22 : decode cX0_total 22 = .ok (.iload_n 3, 1) := by decide +kernel
theorem dX0_total_23 : decode cX0_total 23 = .ok (.baload, 1) := by decide +kernel
theorem dX0_total_24 : decode cX0_total 24 = .ok (.ifCond .eq 15, 3) := by decide +kernel
theorem dX0_total_27 : decode cX0_total 27 = .ok (.iload_n 2, 1) := by decide +kernel
theorem dX0_total_28 : decode cX0_total 28 = .ok (.aload_n 0, 1) := by decide +kernel
theorem dX0_total_29 : decode cX0_total 29 = .ok (.getfield 15, 3) := by decide +kernel
theorem dX0_total_32 : decode cX0_total 32 = .ok (.iload_n 1, 1) := by decide +kernel
theorem dX0_total_33 : decode cX0_total 33 = .ok (.iload_n 3, 1) := by decide +kernel
theorem dX0_total_34 : decode cX0_total 34 = .ok (.invokevirtual 30, 3) := by decide +kernel
theorem dX0_total_37 : decode cX0_total 37 = .ok (.iadd, 1) := by decide +kernel
theorem dX0_total_38 : decode cX0_total 38 = .ok (.istore_n 2, 1) := by decide +kernel
theorem dX0_total_39 : decode cX0_total 39 = .ok (.iinc 3 1, 3) := by decide +kernel
theorem dX0_total_42 : decode cX0_total 42 = .ok (.goto (-38), 3) := by decide +kernel
theorem dX0_total_45 : decode cX0_total 45 = .ok (.iload_n 2, 1) := by decide +kernel
theorem dX0_total_46 : decode cX0_total 46 = .ok (.ireturn, 1) := by decide +kernel
set_option maxRecDepth 20000 in
theorem ggX0_remotest_X0_findReaches : GoodIn wsX0_remotest wsX0_findReaches := goodIn_r _ [9, 1, 4, 3, 10, 11, 12, 13, 8, 14, 15, 16, 17, 18, 19, 20, 21, 22, 23, 24, 25, 26, 27, 28, 29] (by decide +kernel) (by decide +kernel)
set_option maxRecDepth 20000 in
theorem gX0_remotest_X0_findReaches : GoodIn wsX0_remotest (wsV RX0 40 RX0 yX0_findReaches wsX0_findReaches) := goodIn_app (goodIn_of _ (by decide +kernel)) ggX0_remotest_X0_findReaches
theorem dX0_remotest_0 : decode cX0_remotest 0 = .ok (.aload_n 0, 1) := by decide +kernel
theorem dX0_remotest_1 : decode cX0_remotest 1 = .ok (.getfield 15, 3) := by decide +kernel
theorem dX0_remotest_4 : decode cX0_remotest 4 = .ok (.getfield 37, 3) := by decide +kernel
theorem dX0_remotest_7 : decode cX0_remotest 7 = .ok (.ifCond .ne 5, 3) := by decide +kernel
theorem dX0_remotest_10 : decode cX0_remotest 10 = .ok (.iconst (-1), 1) := by decide +kernel
theorem dX0_remotest_11 : decode cX0_remotest 11 = .ok (.ireturn, 1) := by decide +kernel
theorem dX0_remotest_12 : decode cX0_remotest 12 = .ok (.aload_n 0, 1) := by decide +kernel
theorem dX0_remotest_13 : decode cX0_remotest 13 = .ok (.invokevirtual 40, 3) := by decide +kernel
theorem dX0_remotest_16 : decode cX0_remotest 16 = .ok (.aload_n 0, 1) := by decide +kernel
theorem dX0_remotest_17 : decode cX0_remotest 17 = .ok (.getfield 9, 3) := by decide +kernel
theorem dX0_remotest_20 : decode cX0_remotest 20 = .ok (.iconst 0, 1) := by decide +kernel
theorem dX0_remotest_21 : decode cX0_remotest 21 = .ok (.iaload, 1) := by decide +kernel
theorem dX0_remotest_22 : decode cX0_remotest 22 = .ok (.istore_n 2, 1) := by decide +kernel
theorem dX0_remotest_23 : decode cX0_remotest 23 = .ok (.iconst 0, 1) := by decide +kernel
theorem dX0_remotest_24 : decode cX0_remotest 24 = .ok (.istore_n 3, 1) := by decide +kernel
theorem dX0_remotest_25 : decode cX0_remotest 25 = .ok (.iconst 1, 1) := by decide +kernel
theorem dX0_remotest_26 : decode cX0_remotest 26 = .ok (.istore 4, 2) := by decide +kernel
theorem dX0_remotest_28 : decode cX0_remotest 28 = .ok (.iload 4, 2) := by decide +kernel
theorem dX0_remotest_30 : decode cX0_remotest 30 = .ok (.aload_n 0, 1) := by decide +kernel
theorem dX0_remotest_31 : decode cX0_remotest 31 = .ok (.getfield 15, 3) := by decide +kernel
theorem dX0_remotest_34 : decode cX0_remotest 34 = .ok (.getfield 20, 3) := by decide +kernel
theorem dX0_remotest_37 : decode cX0_remotest 37 = .ok (.if_icmp .ge 31, 3) := by decide +kernel
theorem dX0_remotest_40 : decode cX0_remotest 40 = .ok (.aload_n 0, 1) := by decide +kernel
theorem dX0_remotest_41 : decode cX0_remotest 41 = .ok (.getfield 9, 3) := by decide +kernel
theorem dX0_remotest_44 : decode cX0_remotest 44 = .ok (.iload 4, 2) := by decide +kernel
theorem dX0_remotest_46 : decode cX0_remotest 46 = .ok (.iaload, 1) := by decide +kernel
theorem dX0_remotest_47 : decode cX0_remotest 47 = .ok (.iload_n 2, 1) := by decide +kernel
theorem dX0_remotest_48 : decode cX0_remotest 48 = .ok (.if_icmp .le 14, 3) := by decide +kernel
theorem dX0_remotest_51 : decode cX0_remotest 51 = .ok (.aload_n 0, 1) := by decide +kernel
theorem dX0_remotest_52 : decode cX0_remotest 52 = .ok (.getfield 9, 3) := by decide +kernel
theorem dX0_remotest_55 : decode cX0_remotest 55 = .ok (.iload 4, 2) := by decide +kernel
theorem dX0_remotest_57 : decode cX0_remotest 57 = .ok (.iaload, 1) := by decide +kernel
theorem dX0_remotest_58 : decode cX0_remotest 58 = .ok (.istore_n 2, 1) := by decide +kernel
theorem dX0_remotest_59 : decode cX0_remotest 59 = .ok (.iload 4, 2) := by decide +kernel
theorem dX0_remotest_61 : decode cX0_remotest 61 = .ok (.istore_n 3, 1) := by decide +kernel
theorem dX0_remotest_62 : decode cX0_remotest 62 = .ok (.iinc 4 1, 3) := by decide +kernel
theorem dX0_remotest_65 : decode cX0_remotest 65 = .ok (.goto (-37), 3) := by decide +kernel
theorem dX0_remotest_68 : decode cX0_remotest 68 = .ok (.iload_n 1, 1) := by decide +kernel
theorem dX0_remotest_69 : decode cX0_remotest 69 = .ok (.ifCond .ne 7, 3) := by decide +kernel
theorem dX0_remotest_72 : decode cX0_remotest 72 = .ok (.iload_n 2, 1) := by decide +kernel
theorem dX0_remotest_73 : decode cX0_remotest 73 = .ok (.goto 4, 3) := by decide +kernel
theorem dX0_remotest_76 : decode cX0_remotest 76 = .ok (.iload_n 3, 1) := by decide +kernel
theorem dX0_remotest_77 : decode cX0_remotest 77 = .ok (.ireturn, 1) := by decide +kernel
set_option maxRecDepth 20000 in
theorem ggX0_bestNew_X0_findReaches : GoodIn wsX0_bestNew wsX0_findReaches := goodIn_r _ [9, 2, 3, 10, 1, 11, 12, 13, 8, 14, 4, 15, 16, 17, 18, 19, 20, 32, 33, 34, 35, 36, 37, 38, 39] (by decide +kernel) (by decide +kernel)
set_option maxRecDepth 20000 in
theorem gX0_bestNew_X0_findReaches : GoodIn wsX0_bestNew (wsV RX0 40 RX0 yX0_findReaches wsX0_findReaches) := goodIn_app (goodIn_of _ (by decide +kernel)) ggX0_bestNew_X0_findReaches
set_option maxRecDepth 20000 in
theorem ggX0_bestNew_X0_leftWith : GoodIn wsX0_bestNew wsX0_leftWith := goodIn_r _ [24, 2, 3, 10, 25, 26, 27, 28, 29, 30, 31, 15, 16, 17, 18, 19, 20, 32, 33, 34, 35, 36, 37, 38, 39] (by decide +kernel) (by decide +kernel)
set_option maxRecDepth 20000 in
theorem gX0_bestNew_X0_leftWith : GoodIn wsX0_bestNew (wsV RX0 43 RX0 yX0_leftWith wsX0_leftWith) := goodIn_app (goodIn_of _ (by decide +kernel)) ggX0_bestNew_X0_leftWith
theorem dX0_bestNew_0 : decode cX0_bestNew 0 = .ok (.aload_n 0, 1) := by decide +kernel
theorem dX0_bestNew_1 : decode cX0_bestNew 1 = .ok (.invokevirtual 40, 3) := by decide +kernel
theorem dX0_bestNew_4 : decode cX0_bestNew 4 = .ok (.iconst (-1), 1) := by decide +kernel
theorem dX0_bestNew_5 : decode cX0_bestNew 5 = .ok (.istore_n 2, 1) := by decide +kernel
theorem dX0_bestNew_6 : decode cX0_bestNew 6 = .ok (.ldc 19, 2) := by decide +kernel
theorem dX0_bestNew_8 : decode cX0_bestNew 8 = .ok (.istore_n 3, 1) := by decide +kernel
theorem dX0_bestNew_9 : decode cX0_bestNew 9 = .ok (.iconst 0, 1) := by decide +kernel
theorem dX0_bestNew_10 : decode cX0_bestNew 10 = .ok (.istore 4, 2) := by decide +kernel
theorem dX0_bestNew_12 : decode cX0_bestNew 12 = .ok (.iload 4, 2) := by decide +kernel
theorem dX0_bestNew_14 : decode cX0_bestNew 14 = .ok (.aload_n 0, 1) := by decide +kernel
theorem dX0_bestNew_15 : decode cX0_bestNew 15 = .ok (.getfield 15, 3) := by decide +kernel
theorem dX0_bestNew_18 : decode cX0_bestNew 18 = .ok (.getfield 20, 3) := by decide +kernel
theorem dX0_bestNew_21 : decode cX0_bestNew 21 = .ok (.if_icmp .ge 47, 3) := by decide +kernel
theorem dX0_bestNew_24 : decode cX0_bestNew 24 = .ok (.aload_n 0, 1) := by decide +kernel
theorem dX0_bestNew_25 : decode cX0_bestNew 25 = .ok (.getfield 15, 3) := by decide +kernel
theorem dX0_bestNew_28 : decode cX0_bestNew 28 = .ok (.getfield 26, 3) := by decide +kernel
theorem dX0_bestNew_31 : decode cX0_bestNew 31 = .ok (.iload 4, 2) := by decide +kernel
theorem dX0_bestNew_33 : decode cX0_bestNew 33 = .ok (.baload, 1) := by decide +kernel
theorem dX0_bestNew_34 : decode cX0_bestNew 34 = .ok (.ifCond .eq 8, 3) := by decide +kernel
theorem dX0_bestNew_37 : decode cX0_bestNew 37 = .ok (.ldc 19, 2) := by decide +kernel
theorem dX0_bestNew_39 : decode cX0_bestNew 39 = .ok (.goto 9, 3) := by decide +kernel
theorem dX0_bestNew_42 : decode cX0_bestNew 42 = .ok (.aload_n 0, 1) := by decide +kernel
theorem dX0_bestNew_43 : decode cX0_bestNew 43 = .ok (.iload 4, 2) := by decide +kernel
theorem dX0_bestNew_45 : decode cX0_bestNew 45 = .ok (.invokevirtual 43, 3) := by decide +kernel
theorem dX0_bestNew_48 : decode cX0_bestNew 48 = .ok (.istore 5, 2) := by decide +kernel
theorem dX0_bestNew_50 : decode cX0_bestNew 50 = .ok (.iload 5, 2) := by decide +kernel
theorem dX0_bestNew_52 : decode cX0_bestNew 52 = .ok (.iload_n 3, 1) := by decide +kernel
theorem dX0_bestNew_53 : decode cX0_bestNew 53 = .ok (.if_icmp .ge 9, 3) := by decide +kernel
theorem dX0_bestNew_56 : decode cX0_bestNew 56 = .ok (.iload 5, 2) := by decide +kernel
theorem dX0_bestNew_58 : decode cX0_bestNew 58 = .ok (.istore_n 3, 1) := by decide +kernel
theorem dX0_bestNew_59 : decode cX0_bestNew 59 = .ok (.iload 4, 2) := by decide +kernel
theorem dX0_bestNew_61 : decode cX0_bestNew 61 = .ok (.istore_n 2, 1) := by decide +kernel
theorem dX0_bestNew_62 : decode cX0_bestNew 62 = .ok (.iinc 4 1, 3) := by decide +kernel
theorem dX0_bestNew_65 : decode cX0_bestNew 65 = .ok (.goto (-53), 3) := by decide +kernel
theorem dX0_bestNew_68 : decode cX0_bestNew 68 = .ok (.iload_n 2, 1) := by decide +kernel
theorem dX0_bestNew_69 : decode cX0_bestNew 69 = .ok (.iconst (-1), 1) := by decide +kernel
theorem dX0_bestNew_70 : decode cX0_bestNew 70 = .ok (.if_icmp .eq 7, 3) := by decide +kernel
theorem dX0_bestNew_73 : decode cX0_bestNew 73 = .ok (.iload_n 1, 1) := by decide +kernel
theorem dX0_bestNew_74 : decode cX0_bestNew 74 = .ok (.ifCond .ne 7, 3) := by decide +kernel
theorem dX0_bestNew_77 : decode cX0_bestNew 77 = .ok (.iload_n 2, 1) := by decide +kernel
theorem dX0_bestNew_78 : decode cX0_bestNew 78 = .ok (.goto 4, 3) := by decide +kernel
theorem dX0_bestNew_81 : decode cX0_bestNew 81 = .ok (.iload_n 3, 1) := by decide +kernel
theorem dX0_bestNew_82 : decode cX0_bestNew 82 = .ok (.ireturn, 1) := by decide +kernel
set_option maxRecDepth 20000 in
theorem ggX0_countServed_X0_countBefore : GoodIn wsX0_countServed wsX0_countBefore := goodIn_r _ [7, 1, 2, 8, 9, 10, 11, 12, 13, 14, 15, 16, 17, 18, 19, 20, 21, 22] (by decide +kernel) (by decide +kernel)
set_option maxRecDepth 20000 in
theorem gX0_countServed_X0_countBefore : GoodIn wsX0_countServed (wsV RX0 34 RX0 yX0_countBefore wsX0_countBefore) := goodIn_app (goodIn_of _ (by decide +kernel)) ggX0_countServed_X0_countBefore
theorem dX0_countServed_0 : decode cX0_countServed 0 = .ok (.iconst 0, 1) := by decide +kernel
theorem dX0_countServed_1 : decode cX0_countServed 1 = .ok (.istore_n 2, 1) := by decide +kernel
theorem dX0_countServed_2 : decode cX0_countServed 2 = .ok (.iconst 0, 1) := by decide +kernel
theorem dX0_countServed_3 : decode cX0_countServed 3 = .ok (.istore_n 3, 1) := by decide +kernel
theorem dX0_countServed_4 : decode cX0_countServed 4 = .ok (.iload_n 3, 1) := by decide +kernel
theorem dX0_countServed_5 : decode cX0_countServed 5 = .ok (.aload_n 0, 1) := by decide +kernel
theorem dX0_countServed_6 : decode cX0_countServed 6 = .ok (.getfield 15, 3) := by decide +kernel
theorem dX0_countServed_9 : decode cX0_countServed 9 = .ok (.getfield 20, 3) := by decide +kernel
theorem dX0_countServed_12 : decode cX0_countServed 12 = .ok (.if_icmp .ge 21, 3) := by decide +kernel
theorem dX0_countServed_15 : decode cX0_countServed 15 = .ok (.aload_n 0, 1) := by decide +kernel
theorem dX0_countServed_16 : decode cX0_countServed 16 = .ok (.iload_n 3, 1) := by decide +kernel
theorem dX0_countServed_17 : decode cX0_countServed 17 = .ok (.iload_n 1, 1) := by decide +kernel
theorem dX0_countServed_18 : decode cX0_countServed 18 = .ok (.invokevirtual 34, 3) := by decide +kernel
theorem dX0_countServed_21 : decode cX0_countServed 21 = .ok (.ifCond .ne 6, 3) := by decide +kernel
theorem dX0_countServed_24 : decode cX0_countServed 24 = .ok (.iinc 2 1, 3) := by decide +kernel
theorem dX0_countServed_27 : decode cX0_countServed 27 = .ok (.iinc 3 1, 3) := by decide +kernel
theorem dX0_countServed_30 : decode cX0_countServed 30 = .ok (.goto (-26), 3) := by decide +kernel
theorem dX0_countServed_33 : decode cX0_countServed 33 = .ok (.iload_n 2, 1) := by decide +kernel
theorem dX0_countServed_34 : decode cX0_countServed 34 = .ok (.ireturn, 1) := by decide +kernel
set_option maxRecDepth 20000 in
theorem ggX0_closestTwo_X1_gap : GoodIn wsX0_closestTwo wsX1_gap := goodIn_r _ [9, 10, 13, 14, 15, 16, 17, 18] (by decide +kernel) (by decide +kernel)
set_option maxRecDepth 20000 in
theorem gX0_closestTwo_X1_gap : GoodIn wsX0_closestTwo (wsV RX0 30 RX1 yX1_gap wsX1_gap) := goodIn_app (goodIn_of _ (by decide +kernel)) ggX0_closestTwo_X1_gap
theorem dX0_closestTwo_0 : decode cX0_closestTwo 0 = .ok (.ldc 19, 2) := by decide +kernel
theorem dX0_closestTwo_2 : decode cX0_closestTwo 2 = .ok (.istore_n 2, 1) := by decide +kernel
theorem dX0_closestTwo_3 : decode cX0_closestTwo 3 = .ok (.iconst (-1), 1) := by decide +kernel
theorem dX0_closestTwo_4 : decode cX0_closestTwo 4 = .ok (.istore_n 3, 1) := by decide +kernel
theorem dX0_closestTwo_5 : decode cX0_closestTwo 5 = .ok (.iconst (-1), 1) := by decide +kernel
theorem dX0_closestTwo_6 : decode cX0_closestTwo 6 = .ok (.istore 4, 2) := by decide +kernel
theorem dX0_closestTwo_8 : decode cX0_closestTwo 8 = .ok (.iconst 0, 1) := by decide +kernel
theorem dX0_closestTwo_9 : decode cX0_closestTwo 9 = .ok (.istore 5, 2) := by decide +kernel
theorem dX0_closestTwo_11 : decode cX0_closestTwo 11 = .ok (.iload 5, 2) := by decide +kernel
theorem dX0_closestTwo_13 : decode cX0_closestTwo 13 = .ok (.aload_n 0, 1) := by decide +kernel
theorem dX0_closestTwo_14 : decode cX0_closestTwo 14 = .ok (.getfield 15, 3) := by decide +kernel
theorem dX0_closestTwo_17 : decode cX0_closestTwo 17 = .ok (.getfield 20, 3) := by decide +kernel
theorem dX0_closestTwo_20 : decode cX0_closestTwo 20 = .ok (.if_icmp .ge 93, 3) := by decide +kernel
theorem dX0_closestTwo_23 : decode cX0_closestTwo 23 = .ok (.iload 5, 2) := by decide +kernel
theorem dX0_closestTwo_25 : decode cX0_closestTwo 25 = .ok (.iconst 1, 1) := by decide +kernel
theorem dX0_closestTwo_26 : decode cX0_closestTwo 26 = .ok (.iadd, 1) := by decide +kernel
theorem dX0_closestTwo_27 : decode cX0_closestTwo 27 = .ok (.istore 6, 2) := by decide +kernel
theorem dX0_closestTwo_29 : decode cX0_closestTwo 29 = .ok (.iload 6, 2) := by decide +kernel
theorem dX0_closestTwo_31 : decode cX0_closestTwo 31 = .ok (.aload_n 0, 1) := by decide +kernel
theorem dX0_closestTwo_32 : decode cX0_closestTwo 32 = .ok (.getfield 15, 3) := by decide +kernel
theorem dX0_closestTwo_35 : decode cX0_closestTwo 35 = .ok (.getfield 20, 3) := by decide +kernel
theorem dX0_closestTwo_38 : decode cX0_closestTwo 38 = .ok (.if_icmp .ge 69, 3) := by decide +kernel
theorem dX0_closestTwo_41 : decode cX0_closestTwo 41 = .ok (.aload_n 0, 1) := by decide +kernel
theorem dX0_closestTwo_42 : decode cX0_closestTwo 42 = .ok (.getfield 15, 3) := by decide +kernel
theorem dX0_closestTwo_45 : decode cX0_closestTwo 45 = .ok (.getfield 26, 3) := by decide +kernel
theorem dX0_closestTwo_48 : decode cX0_closestTwo 48 = .ok (.iload 5, 2) := by decide +kernel
theorem dX0_closestTwo_50 : decode cX0_closestTwo 50 = .ok (.baload, 1) := by decide +kernel
theorem dX0_closestTwo_51 : decode cX0_closestTwo 51 = .ok (.ifCond .eq 50, 3) := by decide +kernel
theorem dX0_closestTwo_54 : decode cX0_closestTwo 54 = .ok (.aload_n 0, 1) := by decide +kernel
theorem dX0_closestTwo_55 : decode cX0_closestTwo 55 = .ok (.getfield 15, 3) := by decide +kernel
theorem dX0_closestTwo_58 : decode cX0_closestTwo 58 = .ok (.getfield 26, 3) := by decide +kernel
theorem dX0_closestTwo_61 : decode cX0_closestTwo 61 = .ok (.iload 6, 2) := by decide +kernel
theorem dX0_closestTwo_63 : decode cX0_closestTwo 63 = .ok (.baload, 1) := by decide +kernel
theorem dX0_closestTwo_64 : decode cX0_closestTwo 64 = .ok (.ifCond .eq 37, 3) := by decide +kernel
theorem dX0_closestTwo_67 : decode cX0_closestTwo 67 = .ok (.aload_n 0, 1) := by decide +kernel
theorem dX0_closestTwo_68 : decode cX0_closestTwo 68 = .ok (.getfield 15, 3) := by decide +kernel
theorem dX0_closestTwo_71 : decode cX0_closestTwo 71 = .ok (.iload 5, 2) := by decide +kernel
theorem dX0_closestTwo_73 : decode cX0_closestTwo 73 = .ok (.iload 6, 2) := by decide +kernel
theorem dX0_closestTwo_75 : decode cX0_closestTwo 75 = .ok (.invokevirtual 30, 3) := by decide +kernel
theorem dX0_closestTwo_78 : decode cX0_closestTwo 78 = .ok (.iload_n 2, 1) := by decide +kernel
theorem dX0_closestTwo_79 : decode cX0_closestTwo 79 = .ok (.if_icmp .ge 22, 3) := by decide +kernel
theorem dX0_closestTwo_82 : decode cX0_closestTwo 82 = .ok (.aload_n 0, 1) := by decide +kernel
theorem dX0_closestTwo_83 : decode cX0_closestTwo 83 = .ok (.getfield 15, 3) := by decide +kernel
theorem dX0_closestTwo_86 : decode cX0_closestTwo 86 = .ok (.iload 5, 2) := by decide +kernel
theorem dX0_closestTwo_88 : decode cX0_closestTwo 88 = .ok (.iload 6, 2) := by decide +kernel
theorem dX0_closestTwo_90 : decode cX0_closestTwo 90 = .ok (.invokevirtual 30, 3) := by decide +kernel
theorem dX0_closestTwo_93 : decode cX0_closestTwo 93 = .ok (.istore_n 2, 1) := by decide +kernel
theorem dX0_closestTwo_94 : decode cX0_closestTwo 94 = .ok (.iload 5, 2) := by decide +kernel
theorem dX0_closestTwo_96 : decode cX0_closestTwo 96 = .ok (.istore_n 3, 1) := by decide +kernel
theorem dX0_closestTwo_97 : decode cX0_closestTwo 97 = .ok (.iload 6, 2) := by decide +kernel
theorem dX0_closestTwo_99 : decode cX0_closestTwo 99 = .ok (.istore 4, 2) := by decide +kernel
theorem dX0_closestTwo_101 : decode cX0_closestTwo 101 = .ok (.iinc 6 1, 3) := by decide +kernel
theorem dX0_closestTwo_104 : decode cX0_closestTwo 104 = .ok (.goto (-75), 3) := by decide +kernel
theorem dX0_closestTwo_107 : decode cX0_closestTwo 107 = .ok (.iinc 5 1, 3) := by decide +kernel
theorem dX0_closestTwo_110 : decode cX0_closestTwo 110 = .ok (.goto (-99), 3) := by decide +kernel
theorem dX0_closestTwo_113 : decode cX0_closestTwo 113 = .ok (.iload_n 3, 1) := by decide +kernel
theorem dX0_closestTwo_114 : decode cX0_closestTwo 114 = .ok (.iconst (-1), 1) := by decide +kernel
theorem dX0_closestTwo_115 : decode cX0_closestTwo 115 = .ok (.if_icmp .ne 5, 3) := by decide +kernel
theorem dX0_closestTwo_118 : decode cX0_closestTwo 118 = .ok (.iconst (-1), 1) := by decide +kernel
theorem dX0_closestTwo_119 : decode cX0_closestTwo 119 = .ok (.ireturn, 1) := by decide +kernel
theorem dX0_closestTwo_120 : decode cX0_closestTwo 120 = .ok (.iload_n 1, 1) := by decide +kernel
theorem dX0_closestTwo_121 : decode cX0_closestTwo 121 = .ok (.ifCond .ne 7, 3) := by decide +kernel
theorem dX0_closestTwo_124 : decode cX0_closestTwo 124 = .ok (.iload_n 2, 1) := by decide +kernel
theorem dX0_closestTwo_125 : decode cX0_closestTwo 125 = .ok (.goto 14, 3) := by decide +kernel
theorem dX0_closestTwo_128 : decode cX0_closestTwo 128 = .ok (.iload_n 1, 1) := by decide +kernel
theorem dX0_closestTwo_129 : decode cX0_closestTwo 129 = .ok (.iconst 1, 1) := by decide +kernel
theorem dX0_closestTwo_130 : decode cX0_closestTwo 130 = .ok (.if_icmp .ne 7, 3) := by decide +kernel
theorem dX0_closestTwo_133 : decode cX0_closestTwo 133 = .ok (.iload_n 3, 1) := by decide +kernel
theorem dX0_closestTwo_134 : decode cX0_closestTwo 134 = .ok (.goto 5, 3) := by decide +kernel
theorem dX0_closestTwo_137 : decode cX0_closestTwo 137 = .ok (.iload 4, 2) := by decide +kernel
theorem dX0_closestTwo_139 : decode cX0_closestTwo 139 = .ok (.ireturn, 1) := by decide +kernel
set_option maxRecDepth 20000 in
theorem ggX0_countBefore_X1_gap : GoodIn wsX0_countBefore wsX1_gap := goodIn_r _ [8, 9, 12, 13, 14, 15, 16, 17] (by decide +kernel) (by decide +kernel)
set_option maxRecDepth 20000 in
theorem gX0_countBefore_X1_gap : GoodIn wsX0_countBefore (wsV RX0 30 RX1 yX1_gap wsX1_gap) := goodIn_app (goodIn_of _ (by decide +kernel)) ggX0_countBefore_X1_gap
theorem dX0_countBefore_0 : decode cX0_countBefore 0 = .ok (.iconst 0, 1) := by decide +kernel
theorem dX0_countBefore_1 : decode cX0_countBefore 1 = .ok (.istore_n 3, 1) := by decide +kernel
theorem dX0_countBefore_2 : decode cX0_countBefore 2 = .ok (.aload_n 0, 1) := by decide +kernel
theorem dX0_countBefore_3 : decode cX0_countBefore 3 = .ok (.getfield 15, 3) := by decide +kernel
theorem dX0_countBefore_6 : decode cX0_countBefore 6 = .ok (.iload_n 1, 1) := by decide +kernel
theorem dX0_countBefore_7 : decode cX0_countBefore 7 = .ok (.iload_n 2, 1) := by decide +kernel
theorem dX0_countBefore_8 : decode cX0_countBefore 8 = .ok (.invokevirtual 30, 3) := by decide +kernel
theorem dX0_countBefore_11 : decode cX0_countBefore 11 = .ok (.istore 4, 2) := by decide +kernel
theorem dX0_countBefore_13 : decode cX0_countBefore 13 = .ok (.iconst 0, 1) := by decide +kernel
theorem dX0_countBefore_14 : decode cX0_countBefore 14 = .ok (.istore 5, 2) := by decide +kernel
theorem dX0_countBefore_16 : decode cX0_countBefore 16 = .ok (.iload 5, 2) := by decide +kernel
theorem dX0_countBefore_18 : decode cX0_countBefore 18 = .ok (.aload_n 0, 1) := by decide +kernel
theorem dX0_countBefore_19 : decode cX0_countBefore 19 = .ok (.getfield 15, 3) := by decide +kernel
theorem dX0_countBefore_22 : decode cX0_countBefore 22 = .ok (.getfield 20, 3) := by decide +kernel
theorem dX0_countBefore_25 : decode cX0_countBefore 25 = .ok (.if_icmp .ge 57, 3) := by decide +kernel
theorem dX0_countBefore_28 : decode cX0_countBefore 28 = .ok (.aload_n 0, 1) := by decide +kernel
theorem dX0_countBefore_29 : decode cX0_countBefore 29 = .ok (.getfield 15, 3) := by decide +kernel
theorem dX0_countBefore_32 : decode cX0_countBefore 32 = .ok (.iload_n 1, 1) := by decide +kernel
theorem dX0_countBefore_33 : decode cX0_countBefore 33 = .ok (.iload 5, 2) := by decide +kernel
theorem dX0_countBefore_35 : decode cX0_countBefore 35 = .ok (.invokevirtual 30, 3) := by decide +kernel
theorem dX0_countBefore_38 : decode cX0_countBefore 38 = .ok (.istore 6, 2) := by decide +kernel
theorem dX0_countBefore_40 : decode cX0_countBefore 40 = .ok (.aload_n 0, 1) := by decide +kernel
theorem dX0_countBefore_41 : decode cX0_countBefore 41 = .ok (.getfield 15, 3) := by decide +kernel
theorem dX0_countBefore_44 : decode cX0_countBefore 44 = .ok (.getfield 26, 3) := by decide +kernel
theorem dX0_countBefore_47 : decode cX0_countBefore 47 = .ok (.iload 5, 2) := by decide +kernel
theorem dX0_countBefore_49 : decode cX0_countBefore 49 = .ok (.baload, 1) := by decide +kernel
theorem dX0_countBefore_50 : decode cX0_countBefore 50 = .ok (.ifCond .eq 26, 3) := by decide +kernel
theorem dX0_countBefore_53 : decode cX0_countBefore 53 = .ok (.iload 6, 2) := by decide +kernel
theorem dX0_countBefore_55 : decode cX0_countBefore 55 = .ok (.iload 4, 2) := by decide +kernel
theorem dX0_countBefore_57 : decode cX0_countBefore 57 = .ok (.if_icmp .lt 16, 3) := by decide +kernel
theorem dX0_countBefore_60 : decode cX0_countBefore 60 = .ok (.iload 6, 2) := by decide +kernel
theorem dX0_countBefore_62 : decode cX0_countBefore 62 = .ok (.iload 4, 2) := by decide +kernel
theorem dX0_countBefore_64 : decode cX0_countBefore 64 = .ok (.if_icmp .ne 12, 3) := by decide +kernel
theorem dX0_countBefore_67 : decode cX0_countBefore 67 = .ok (.iload 5, 2) := by decide +kernel
theorem dX0_countBefore_69 : decode cX0_countBefore 69 = .ok (.iload_n 2, 1) := by decide +kernel
theorem dX0_countBefore_70 : decode cX0_countBefore 70 = .ok (.if_icmp .ge 6, 3) := by decide +kernel
theorem dX0_countBefore_73 : decode cX0_countBefore 73 = .ok (.iinc 3 1, 3) := by decide +kernel
theorem dX0_countBefore_76 : decode cX0_countBefore 76 = .ok (.iinc 5 1, 3) := by decide +kernel
theorem dX0_countBefore_79 : decode cX0_countBefore 79 = .ok (.goto (-63), 3) := by decide +kernel
theorem dX0_countBefore_82 : decode cX0_countBefore 82 = .ok (.iload_n 3, 1) := by decide +kernel
theorem dX0_countBefore_83 : decode cX0_countBefore 83 = .ok (.ireturn, 1) := by decide +kernel
set_option maxRecDepth 20000 in
theorem ggX0_findReaches_X0_closest : GoodIn wsX0_findReaches wsX0_closest := goodIn_r _ [9, 4, 1, 2, 10, 11, 12, 13, 14, 15, 16, 17, 18, 19, 20, 21, 22, 23, 24] (by decide +kernel) (by decide +kernel)
set_option maxRecDepth 20000 in
theorem gX0_findReaches_X0_closest : GoodIn wsX0_findReaches (wsV RX0 47 RX0 yX0_closest wsX0_closest) := goodIn_app (goodIn_of _ (by decide +kernel)) ggX0_findReaches_X0_closest
set_option maxRecDepth 20000 in
theorem ggX0_findReaches_X1_gap : GoodIn wsX0_findReaches wsX1_gap := goodIn_r _ [15, 16, 19, 20, 21, 22, 23, 24] (by decide +kernel) (by decide +kernel)
set_option maxRecDepth 20000 in
theorem gX0_findReaches_X1_gap : GoodIn wsX0_findReaches (wsV RX0 30 RX1 yX1_gap wsX1_gap) := goodIn_app (goodIn_of _ (by decide +kernel)) ggX0_findReaches_X1_gap
theorem dX0_findReaches_0 : decode cX0_findReaches 0 = .ok (.iconst 0, 1) := by decide +kernel
theorem dX0_findReaches_1 : decode cX0_findReaches 1 = .ok (.istore_n 1, 1) := by decide +kernel
theorem dX0_findReaches_2 : decode cX0_findReaches 2 = .ok (.iload_n 1, 1) := by decide +kernel
theorem dX0_findReaches_3 : decode cX0_findReaches 3 = .ok (.aload_n 0, 1) := by decide +kernel
theorem dX0_findReaches_4 : decode cX0_findReaches 4 = .ok (.getfield 15, 3) := by decide +kernel
theorem dX0_findReaches_7 : decode cX0_findReaches 7 = .ok (.getfield 20, 3) := by decide +kernel
theorem dX0_findReaches_10 : decode cX0_findReaches 10 = .ok (.if_icmp .ge 40, 3) := by decide +kernel
theorem dX0_findReaches_13 : decode cX0_findReaches 13 = .ok (.aload_n 0, 1) := by decide +kernel
theorem dX0_findReaches_14 : decode cX0_findReaches 14 = .ok (.iload_n 1, 1) := by decide +kernel
theorem dX0_findReaches_15 : decode cX0_findReaches 15 = .ok (.invokevirtual 47, 3) := by decide +kernel
theorem dX0_findReaches_18 : decode cX0_findReaches 18 = .ok (.istore_n 2, 1) := by decide +kernel
theorem dX0_findReaches_19 : decode cX0_findReaches 19 = .ok (.aload_n 0, 1) := by decide +kernel
theorem dX0_findReaches_20 : decode cX0_findReaches 20 = .ok (.getfield 9, 3) := by decide +kernel
theorem dX0_findReaches_23 : decode cX0_findReaches 23 = .ok (.iload_n 1, 1) := by decide +kernel
theorem dX0_findReaches_24 : decode cX0_findReaches 24 = .ok (.iload_n 2, 1) := by decide +kernel
theorem dX0_findReaches_25 : decode cX0_findReaches 25 = .ok (.iconst (-1), 1) := by decide +kernel
theorem dX0_findReaches_26 : decode cX0_findReaches 26 = .ok (.if_icmp .ne 8, 3) := by decide +kernel
theorem dX0_findReaches_29 : decode cX0_findReaches 29 = .ok (.ldc 19, 2) := by decide +kernel
theorem dX0_findReaches_31 : decode cX0_findReaches 31 = .ok (.goto 12, 3) := by decide +kernel
theorem dX0_findReaches_34 : decode cX0_findReaches 34 = .ok (.aload_n 0, 1) := by decide +kernel
theorem dX0_findReaches_35 : decode cX0_findReaches 35 = .ok (.getfield 15, 3) := by decide +kernel
theorem dX0_findReaches_38 : decode cX0_findReaches 38 = .ok (.iload_n 1, 1) := by decide +kernel
theorem dX0_findReaches_39 : decode cX0_findReaches 39 = .ok (.iload_n 2, 1) := by decide +kernel
theorem dX0_findReaches_40 : decode cX0_findReaches 40 = .ok (.invokevirtual 30, 3) := by decide +kernel
theorem dX0_findReaches_43 : decode cX0_findReaches 43 = .ok (.iastore, 1) := by decide +kernel
theorem dX0_findReaches_44 : decode cX0_findReaches 44 = .ok (.iinc 1 1, 3) := by decide +kernel
theorem dX0_findReaches_47 : decode cX0_findReaches 47 = .ok (.goto (-45), 3) := by decide +kernel
theorem dX0_findReaches_50 : decode cX0_findReaches 50 = .ok (.return_, 1) := by decide +kernel
set_option maxRecDepth 20000 in
theorem ggX0_leftWith_X1_gap : GoodIn wsX0_leftWith wsX1_gap := goodIn_r _ [15, 16, 19, 20, 21, 22, 23, 24] (by decide +kernel) (by decide +kernel)
set_option maxRecDepth 20000 in
theorem gX0_leftWith_X1_gap : GoodIn wsX0_leftWith (wsV RX0 30 RX1 yX1_gap wsX1_gap) := goodIn_app (goodIn_of _ (by decide +kernel)) ggX0_leftWith_X1_gap
theorem dX0_leftWith_0 : decode cX0_leftWith 0 = .ok (.iconst 0, 1) := by decide +kernel
theorem dX0_leftWith_1 : decode cX0_leftWith 1 = .ok (.istore_n 2, 1) := by decide +kernel
theorem dX0_leftWith_2 : decode cX0_leftWith 2 = .ok (.iconst 0, 1) := by decide +kernel
theorem dX0_leftWith_3 : decode cX0_leftWith 3 = .ok (.istore_n 3, 1) := by decide +kernel
theorem dX0_leftWith_4 : decode cX0_leftWith 4 = .ok (.iload_n 3, 1) := by decide +kernel
theorem dX0_leftWith_5 : decode cX0_leftWith 5 = .ok (.aload_n 0, 1) := by decide +kernel
theorem dX0_leftWith_6 : decode cX0_leftWith 6 = .ok (.getfield 15, 3) := by decide +kernel
theorem dX0_leftWith_9 : decode cX0_leftWith 9 = .ok (.getfield 20, 3) := by decide +kernel
theorem dX0_leftWith_12 : decode cX0_leftWith 12 = .ok (.if_icmp .ge 32, 3) := by decide +kernel
theorem dX0_leftWith_15 : decode cX0_leftWith 15 = .ok (.iload_n 2, 1) := by decide +kernel
theorem dX0_leftWith_16 : decode cX0_leftWith 16 = .ok (.aload_n 0, 1) := by decide +kernel
theorem dX0_leftWith_17 : decode cX0_leftWith 17 = .ok (.getfield 9, 3) := by decide +kernel
theorem dX0_leftWith_20 : decode cX0_leftWith 20 = .ok (.iload_n 3, 1) := by decide +kernel
theorem dX0_leftWith_21 : decode cX0_leftWith 21 = .ok (.iaload, 1) := by decide +kernel
theorem dX0_leftWith_22 : decode cX0_leftWith 22 = .ok (.aload_n 0, 1) := by decide +kernel
theorem dX0_leftWith_23 : decode cX0_leftWith 23 = .ok (.getfield 15, 3) := by decide +kernel
theorem dX0_leftWith_26 : decode cX0_leftWith 26 = .ok (.iload_n 3, 1) := by decide +kernel
theorem dX0_leftWith_27 : decode cX0_leftWith 27 = .ok (.iload_n 1, 1) := by decide +kernel
theorem dX0_leftWith_28 : decode cX0_leftWith 28 = .ok (.invokevirtual 30, 3) := by decide +kernel
theorem dX0_leftWith_31 : decode cX0_leftWith 31 = .ok (.invokestatic 50, 3) := by decide +kernel
theorem dX0_leftWith_34 : decode cX0_leftWith 34 = .ok (.invokestatic 55, 3) := by decide +kernel
theorem dX0_leftWith_37 : decode cX0_leftWith 37 = .ok (.istore_n 2, 1) := by decide +kernel
theorem dX0_leftWith_38 : decode cX0_leftWith 38 = .ok (.iinc 3 1, 3) := by decide +kernel
theorem dX0_leftWith_41 : decode cX0_leftWith 41 = .ok (.goto (-37), 3) := by decide +kernel
theorem dX0_leftWith_44 : decode cX0_leftWith 44 = .ok (.iload_n 2, 1) := by decide +kernel
theorem dX0_leftWith_45 : decode cX0_leftWith 45 = .ok (.ireturn, 1) := by decide +kernel
set_option maxRecDepth 20000 in
theorem ggX1_init_X1_empty : GoodIn wsX1_init wsX1_empty := goodIn_r _ [14, 15, 16, 5, 6, 8, 17, 18, 19, 20, 21, 22] (by decide +kernel) (by decide +kernel)
set_option maxRecDepth 20000 in
theorem gX1_init_X1_empty : GoodIn wsX1_init (wsV RX1 25 RX1 yX1_empty wsX1_empty) := goodIn_app (goodIn_of _ (by decide +kernel)) ggX1_init_X1_empty
theorem dX1_init_0 : decode cX1_init 0 = .ok (.aload_n 0, 1) := by decide +kernel
theorem dX1_init_1 : decode cX1_init 1 = .ok (.invokespecial 3, 3) := by decide +kernel
theorem dX1_init_4 : decode cX1_init 4 = .ok (.aload_n 0, 1) := by decide +kernel
theorem dX1_init_5 : decode cX1_init 5 = .ok (.bipush 60, 2) := by decide +kernel
theorem dX1_init_7 : decode cX1_init 7 = .ok (.newarray .int, 2) := by decide +kernel
theorem dX1_init_9 : decode cX1_init 9 = .ok (.putfield 9, 3) := by decide +kernel
theorem dX1_init_12 : decode cX1_init 12 = .ok (.aload_n 0, 1) := by decide +kernel
theorem dX1_init_13 : decode cX1_init 13 = .ok (.bipush 60, 2) := by decide +kernel
theorem dX1_init_15 : decode cX1_init 15 = .ok (.newarray .int, 2) := by decide +kernel
theorem dX1_init_17 : decode cX1_init 17 = .ok (.putfield 15, 3) := by decide +kernel
theorem dX1_init_20 : decode cX1_init 20 = .ok (.aload_n 0, 1) := by decide +kernel
theorem dX1_init_21 : decode cX1_init 21 = .ok (.bipush 60, 2) := by decide +kernel
theorem dX1_init_23 : decode cX1_init 23 = .ok (.newarray .boolean, 2) := by decide +kernel
theorem dX1_init_25 : decode cX1_init 25 = .ok (.putfield 18, 3) := by decide +kernel
theorem dX1_init_28 : decode cX1_init 28 = .ok (.aload_n 0, 1) := by decide +kernel
theorem dX1_init_29 : decode cX1_init 29 = .ok (.sipush 3600, 3) := by decide +kernel
theorem dX1_init_32 : decode cX1_init 32 = .ok (.newarray .int, 2) := by decide +kernel
theorem dX1_init_34 : decode cX1_init 34 = .ok (.putfield 22, 3) := by decide +kernel
theorem dX1_init_37 : decode cX1_init 37 = .ok (.aload_n 0, 1) := by decide +kernel
theorem dX1_init_38 : decode cX1_init 38 = .ok (.invokevirtual 25, 3) := by decide +kernel
theorem dX1_init_41 : decode cX1_init 41 = .ok (.pop, 1) := by decide +kernel
theorem dX1_init_42 : decode cX1_init 42 = .ok (.return_, 1) := by decide +kernel
theorem dX1_has_0 : decode cX1_has 0 = .ok (.iload_n 1, 1) := by decide +kernel
theorem dX1_has_1 : decode cX1_has 1 = .ok (.ifCond .lt 15, 3) := by decide +kernel
theorem dX1_has_4 : decode cX1_has 4 = .ok (.iload_n 1, 1) := by decide +kernel
theorem dX1_has_5 : decode cX1_has 5 = .ok (.aload_n 0, 1) := by decide +kernel
theorem dX1_has_6 : decode cX1_has 6 = .ok (.getfield 29, 3) := by decide +kernel
theorem dX1_has_9 : decode cX1_has 9 = .ok (.if_icmp .ge 7, 3) := by decide +kernel
theorem dX1_has_12 : decode cX1_has 12 = .ok (.iconst 1, 1) := by decide +kernel
theorem dX1_has_13 : decode cX1_has 13 = .ok (.goto 4, 3) := by decide +kernel
theorem dX1_has_16 : decode cX1_has 16 = .ok (.iconst 0, 1) := by decide +kernel
theorem dX1_has_17 : decode cX1_has 17 = .ok (.ireturn, 1) := by decide +kernel
theorem dX1_empty_0 : decode cX1_empty 0 = .ok (.aload_n 0, 1) := by decide +kernel
theorem dX1_empty_1 : decode cX1_empty 1 = .ok (.getfield 29, 3) := by decide +kernel
theorem dX1_empty_4 : decode cX1_empty 4 = .ok (.istore_n 1, 1) := by decide +kernel
theorem dX1_empty_5 : decode cX1_empty 5 = .ok (.aload_n 0, 1) := by decide +kernel
theorem dX1_empty_6 : decode cX1_empty 6 = .ok (.iconst 1, 1) := by decide +kernel
theorem dX1_empty_7 : decode cX1_empty 7 = .ok (.putfield 29, 3) := by decide +kernel
theorem dX1_empty_10 : decode cX1_empty 10 = .ok (.aload_n 0, 1) := by decide +kernel
theorem dX1_empty_11 : decode cX1_empty 11 = .ok (.iconst 0, 1) := by decide +kernel
theorem dX1_empty_12 : decode cX1_empty 12 = .ok (.putfield 33, 3) := by decide +kernel
theorem dX1_empty_15 : decode cX1_empty 15 = .ok (.aload_n 0, 1) := by decide +kernel
theorem dX1_empty_16 : decode cX1_empty 16 = .ok (.getfield 9, 3) := by decide +kernel
theorem dX1_empty_19 : decode cX1_empty 19 = .ok (.iconst 0, 1) := by decide +kernel
theorem dX1_empty_20 : decode cX1_empty 20 = .ok (.iconst (-1), 1) := by decide +kernel
theorem dX1_empty_21 : decode cX1_empty 21 = .ok (.iastore, 1) := by decide +kernel
theorem dX1_empty_22 : decode cX1_empty 22 = .ok (.aload_n 0, 1) := by decide +kernel
theorem dX1_empty_23 : decode cX1_empty 23 = .ok (.getfield 15, 3) := by decide +kernel
theorem dX1_empty_26 : decode cX1_empty 26 = .ok (.iconst 0, 1) := by decide +kernel
theorem dX1_empty_27 : decode cX1_empty 27 = .ok (.iconst 0, 1) := by decide +kernel
theorem dX1_empty_28 : decode cX1_empty 28 = .ok (.iastore, 1) := by decide +kernel
theorem dX1_empty_29 : decode cX1_empty 29 = .ok (.aload_n 0, 1) := by decide +kernel
theorem dX1_empty_30 : decode cX1_empty 30 = .ok (.getfield 18, 3) := by decide +kernel
theorem dX1_empty_33 : decode cX1_empty 33 = .ok (.iconst 0, 1) := by decide +kernel
theorem dX1_empty_34 : decode cX1_empty 34 = .ok (.iconst 0, 1) := by decide +kernel
theorem dX1_empty_35 : decode cX1_empty 35 = .ok (.bastore, 1) := by decide +kernel
theorem dX1_empty_36 : decode cX1_empty 36 = .ok (.iload_n 1, 1) := by decide +kernel
theorem dX1_empty_37 : decode cX1_empty 37 = .ok (.ireturn, 1) := by decide +kernel
set_option maxRecDepth 20000 in
theorem ggX1_settle_X1_has : GoodIn wsX1_settle wsX1_has := goodIn_r _ [9, 1, 19, 20, 21, 22, 23, 24] (by decide +kernel) (by decide +kernel)
set_option maxRecDepth 20000 in
theorem gX1_settle_X1_has : GoodIn wsX1_settle (wsV RX1 36 RX1 yX1_has wsX1_has) := goodIn_app (goodIn_of _ (by decide +kernel)) ggX1_settle_X1_has
set_option maxRecDepth 20000 in
theorem ggX1_settle_X1_measure : GoodIn wsX1_settle wsX1_measure := goodIn_r _ [13, 2, 3, 14, 5, 6, 7, 8, 9, 1, 15, 16, 17, 18, 19, 20, 21, 22, 23, 24] (by decide +kernel) (by decide +kernel)
set_option maxRecDepth 20000 in
theorem gX1_settle_X1_measure : GoodIn wsX1_settle (wsV RX1 40 RX1 yX1_measure wsX1_measure) := goodIn_app (goodIn_of _ (by decide +kernel)) ggX1_settle_X1_measure
theorem dX1_settle_0 : decode cX1_settle 0 = .ok (.aload_n 0, 1) := by decide +kernel
theorem dX1_settle_1 : decode cX1_settle 1 = .ok (.iload_n 1, 1) := by decide +kernel
theorem dX1_settle_2 : decode cX1_settle 2 = .ok (.invokevirtual 36, 3) := by decide +kernel
theorem dX1_settle_5 : decode cX1_settle 5 = .ok (.ifCond .eq 12, 3) := by decide +kernel
theorem dX1_settle_8 : decode cX1_settle 8 = .ok (.aload_n 0, 1) := by decide +kernel
theorem dX1_settle_9 : decode cX1_settle 9 = .ok (.getfield 29, 3) := by decide +kernel
theorem dX1_settle_12 : decode cX1_settle 12 = .ok (.bipush 60, 2) := by decide +kernel
theorem dX1_settle_14 : decode cX1_settle 14 = .ok (.if_icmp .lt 5, 3) := by decide +kernel
theorem dX1_settle_17 : decode cX1_settle 17 = .ok (.iconst (-1), 1) := by decide +kernel
theorem dX1_settle_18 : decode cX1_settle 18 = .ok (.ireturn, 1) := by decide +kernel
theorem dX1_settle_19 : decode cX1_settle 19 = .ok (.aload_n 0, 1) := by decide +kernel
theorem dX1_settle_20 : decode cX1_settle 20 = .ok (.getfield 29, 3) := by decide +kernel
theorem dX1_settle_23 : decode cX1_settle 23 = .ok (.istore_n 3, 1) := by decide +kernel
theorem dX1_settle_24 : decode cX1_settle 24 = .ok (.aload_n 0, 1) := by decide +kernel
theorem dX1_settle_25 : decode cX1_settle 25 = .ok (.dup, 1) := by decide +kernel
theorem dX1_settle_26 : decode cX1_settle 26 = .ok (.getfield 29, 3) := by decide +kernel
theorem dX1_settle_29 : decode cX1_settle 29 = .ok (.iconst 1, 1) := by decide +kernel
theorem dX1_settle_30 : decode cX1_settle 30 = .ok (.iadd, 1) := by decide +kernel
theorem dX1_settle_31 : decode cX1_settle 31 = .ok (.putfield 29, 3) := by decide +kernel
theorem dX1_settle_34 : decode cX1_settle 34 = .ok (.aload_n 0, 1) := by decide +kernel
theorem dX1_settle_35 : decode cX1_settle 35 = .ok (.getfield 9, 3) := by decide +kernel
theorem dX1_settle_38 : decode cX1_settle 38 = .ok (.iload_n 3, 1) := by decide +kernel
theorem dX1_settle_39 : decode cX1_settle 39 = .ok (.iload_n 1, 1) := by decide +kernel
theorem dX1_settle_40 : decode cX1_settle 40 = .ok (.iastore, 1) := by decide +kernel
theorem dX1_settle_41 : decode cX1_settle 41 = .ok (.aload_n 0, 1) := by decide +kernel
theorem dX1_settle_42 : decode cX1_settle 42 = .ok (.getfield 15, 3) := by decide +kernel
theorem dX1_settle_45 : decode cX1_settle 45 = .ok (.iload_n 3, 1) := by decide +kernel
theorem dX1_settle_46 : decode cX1_settle 46 = .ok (.iload_n 2, 1) := by decide +kernel
theorem dX1_settle_47 : decode cX1_settle 47 = .ok (.iastore, 1) := by decide +kernel
theorem dX1_settle_48 : decode cX1_settle 48 = .ok (.aload_n 0, 1) := by decide +kernel
theorem dX1_settle_49 : decode cX1_settle 49 = .ok (.getfield 18, 3) := by decide +kernel
theorem dX1_settle_52 : decode cX1_settle 52 = .ok (.iload_n 3, 1) := by decide +kernel
theorem dX1_settle_53 : decode cX1_settle 53 = .ok (.iconst 0, 1) := by decide +kernel
theorem dX1_settle_54 : decode cX1_settle 54 = .ok (.bastore, 1) := by decide +kernel
theorem dX1_settle_55 : decode cX1_settle 55 = .ok (.aload_n 0, 1) := by decide +kernel
theorem dX1_settle_56 : decode cX1_settle 56 = .ok (.iload_n 3, 1) := by decide +kernel
theorem dX1_settle_57 : decode cX1_settle 57 = .ok (.invokevirtual 40, 3) := by decide +kernel
theorem dX1_settle_60 : decode cX1_settle 60 = .ok (.iload_n 3, 1) := by decide +kernel
theorem dX1_settle_61 : decode cX1_settle 61 = .ok (.ireturn, 1) := by decide +kernel
set_option maxRecDepth 20000 in
theorem ggX1_setDepot_X1_has : GoodIn wsX1_setDepot wsX1_has := goodIn_r _ [7, 8, 9, 10, 11, 12, 13, 14] (by decide +kernel) (by decide +kernel)
set_option maxRecDepth 20000 in
theorem gX1_setDepot_X1_has : GoodIn wsX1_setDepot (wsV RX1 36 RX1 yX1_has wsX1_has) := goodIn_app (goodIn_of _ (by decide +kernel)) ggX1_setDepot_X1_has
theorem dX1_setDepot_0 : decode cX1_setDepot 0 = .ok (.aload_n 0, 1) := by decide +kernel
theorem dX1_setDepot_1 : decode cX1_setDepot 1 = .ok (.iload_n 1, 1) := by decide +kernel
theorem dX1_setDepot_2 : decode cX1_setDepot 2 = .ok (.invokevirtual 36, 3) := by decide +kernel
theorem dX1_setDepot_5 : decode cX1_setDepot 5 = .ok (.ifCond .eq 13, 3) := by decide +kernel
theorem dX1_setDepot_8 : decode cX1_setDepot 8 = .ok (.aload_n 0, 1) := by decide +kernel
theorem dX1_setDepot_9 : decode cX1_setDepot 9 = .ok (.getfield 18, 3) := by decide +kernel
theorem dX1_setDepot_12 : decode cX1_setDepot 12 = .ok (.iload_n 1, 1) := by decide +kernel
theorem dX1_setDepot_13 : decode cX1_setDepot 13 = .ok (.baload, 1) := by decide +kernel
theorem dX1_setDepot_14 : decode cX1_setDepot 14 = .ok (.iload_n 2, 1) := by decide +kernel
theorem dX1_setDepot_15 : decode cX1_setDepot 15 = .ok (.if_icmp .ne 5, 3) := by decide +kernel
theorem dX1_setDepot_18 : decode cX1_setDepot 18 = .ok (.iconst 0, 1) := by decide +kernel
theorem dX1_setDepot_19 : decode cX1_setDepot 19 = .ok (.ireturn, 1) := by decide +kernel
theorem dX1_setDepot_20 : decode cX1_setDepot 20 = .ok (.aload_n 0, 1) := by decide +kernel
theorem dX1_setDepot_21 : decode cX1_setDepot 21 = .ok (.getfield 18, 3) := by decide +kernel
theorem dX1_setDepot_24 : decode cX1_setDepot 24 = .ok (.iload_n 1, 1) := by decide +kernel
theorem dX1_setDepot_25 : decode cX1_setDepot 25 = .ok (.iload_n 2, 1) := by decide +kernel
theorem dX1_setDepot_26 : decode cX1_setDepot 26 = .ok (.bastore, 1) := by decide +kernel
theorem dX1_setDepot_27 : decode cX1_setDepot 27 = .ok (.aload_n 0, 1) := by decide +kernel
theorem dX1_setDepot_28 : decode cX1_setDepot 28 = .ok (.dup, 1) := by decide +kernel
theorem dX1_setDepot_29 : decode cX1_setDepot 29 = .ok (.getfield 33, 3) := by decide +kernel
theorem dX1_setDepot_32 : decode cX1_setDepot 32 = .ok (.iload_n 2, 1) := by decide +kernel
theorem dX1_setDepot_33 : decode cX1_setDepot 33 = .ok (.ifCond .eq 7, 3) := by decide +kernel
theorem dX1_setDepot_36 : decode cX1_setDepot 36 = .ok (.iconst 1, 1) := by decide +kernel
theorem dX1_setDepot_37 : decode cX1_setDepot 37 = .ok (.goto 4, 3) := by decide +kernel
theorem dX1_setDepot_40 : decode cX1_setDepot 40 = .ok (.iconst (-1), 1) := by decide +kernel
theorem dX1_setDepot_41 : decode cX1_setDepot 41 = .ok (.iadd, 1) := by decide +kernel
theorem dX1_setDepot_42 : decode cX1_setDepot 42 = .ok (.putfield 33, 3) := by decide +kernel
theorem dX1_setDepot_45 : decode cX1_setDepot 45 = .ok (.iconst 1, 1) := by decide +kernel
theorem dX1_setDepot_46 : decode cX1_setDepot 46 = .ok (.ireturn, 1) := by decide +kernel
set_option maxRecDepth 20000 in
theorem ggX1_setRoad_X1_has : GoodIn wsX1_setRoad wsX1_has := goodIn_r _ [7, 2, 18, 19, 20, 21, 22, 23] (by decide +kernel) (by decide +kernel)
set_option maxRecDepth 20000 in
theorem gX1_setRoad_X1_has : GoodIn wsX1_setRoad (wsV RX1 36 RX1 yX1_has wsX1_has) := goodIn_app (goodIn_of _ (by decide +kernel)) ggX1_setRoad_X1_has
set_option maxRecDepth 20000 in
theorem ggX1_setRoad_X1_measure : GoodIn wsX1_setRoad wsX1_measure := goodIn_r _ [11, 12, 1, 13, 3, 4, 5, 6, 7, 2, 14, 15, 16, 17, 18, 19, 20, 21, 22, 23] (by decide +kernel) (by decide +kernel)
set_option maxRecDepth 20000 in
theorem gX1_setRoad_X1_measure : GoodIn wsX1_setRoad (wsV RX1 40 RX1 yX1_measure wsX1_measure) := goodIn_app (goodIn_of _ (by decide +kernel)) ggX1_setRoad_X1_measure
theorem dX1_setRoad_0 : decode cX1_setRoad 0 = .ok (.aload_n 0, 1) := by decide +kernel
theorem dX1_setRoad_1 : decode cX1_setRoad 1 = .ok (.iload_n 1, 1) := by decide +kernel
theorem dX1_setRoad_2 : decode cX1_setRoad 2 = .ok (.invokevirtual 36, 3) := by decide +kernel
theorem dX1_setRoad_5 : decode cX1_setRoad 5 = .ok (.ifCond .ne 5, 3) := by decide +kernel
theorem dX1_setRoad_8 : decode cX1_setRoad 8 = .ok (.iconst (-1), 1) := by decide +kernel
theorem dX1_setRoad_9 : decode cX1_setRoad 9 = .ok (.ireturn, 1) := by decide +kernel
theorem dX1_setRoad_10 : decode cX1_setRoad 10 = .ok (.aload_n 0, 1) := by decide +kernel
theorem dX1_setRoad_11 : decode cX1_setRoad 11 = .ok (.getfield 15, 3) := by decide +kernel
theorem dX1_setRoad_14 : decode cX1_setRoad 14 = .ok (.iload_n 1, 1) := by decide +kernel
theorem dX1_setRoad_15 : decode cX1_setRoad 15 = .ok (.iaload, 1) := by decide +kernel
theorem dX1_setRoad_16 : decode cX1_setRoad 16 = .ok (.istore_n 3, 1) := by decide +kernel
theorem dX1_setRoad_17 : decode cX1_setRoad 17 = .ok (.aload_n 0, 1) := by decide +kernel
theorem dX1_setRoad_18 : decode cX1_setRoad 18 = .ok (.getfield 15, 3) := by decide +kernel
theorem dX1_setRoad_21 : decode cX1_setRoad 21 = .ok (.iload_n 1, 1) := by decide +kernel
theorem dX1_setRoad_22 : decode cX1_setRoad 22 = .ok (.iload_n 2, 1) := by decide +kernel
theorem dX1_setRoad_23 : decode cX1_setRoad 23 = .ok (.iastore, 1) := by decide +kernel
theorem dX1_setRoad_24 : decode cX1_setRoad 24 = .ok (.iload_n 1, 1) := by decide +kernel
theorem dX1_setRoad_25 : decode cX1_setRoad 25 = .ok (.istore 4, 2) := by decide +kernel
theorem dX1_setRoad_27 : decode cX1_setRoad 27 = .ok (.iload 4, 2) := by decide +kernel
theorem dX1_setRoad_29 : decode cX1_setRoad 29 = .ok (.aload_n 0, 1) := by decide +kernel
theorem dX1_setRoad_30 : decode cX1_setRoad 30 = .ok (.getfield 29, 3) := by decide +kernel
theorem dX1_setRoad_33 : decode cX1_setRoad 33 = .ok (.if_icmp .ge 15, 3) := by decide +kernel
theorem dX1_setRoad_36 : decode cX1_setRoad 36 = .ok (.aload_n 0, 1) := by decide +kernel
theorem dX1_setRoad_37 : decode cX1_setRoad 37 = .ok (.iload 4, 2) := by decide +kernel
theorem dX1_setRoad_39 : decode cX1_setRoad 39 = .ok (.invokevirtual 40, 3) := by decide +kernel
theorem dX1_setRoad_42 : decode cX1_setRoad 42 = .ok (.iinc 4 1, 3) := by decide +kernel
theorem dX1_setRoad_45 : decode cX1_setRoad 45 = .ok (.goto (-18), 3) := by decide +kernel
theorem dX1_setRoad_48 : decode cX1_setRoad 48 = .ok (.iload_n 3, 1) := by decide +kernel
theorem dX1_setRoad_49 : decode cX1_setRoad 49 = .ok (.ireturn, 1) := by decide +kernel
set_option maxRecDepth 20000 in
theorem ggX1_sow_X1_empty : GoodIn wsX1_sow wsX1_empty := goodIn_r _ [15, 1, 10, 16, 17, 18, 40, 41, 42, 43, 44, 45] (by decide +kernel) (by decide +kernel)
set_option maxRecDepth 20000 in
theorem gX1_sow_X1_empty : GoodIn wsX1_sow (wsV RX1 25 RX1 yX1_empty wsX1_empty) := goodIn_app (goodIn_of _ (by decide +kernel)) ggX1_sow_X1_empty
set_option maxRecDepth 20000 in
theorem ggX1_sow_X1_settle : GoodIn wsX1_sow wsX1_settle := goodIn_r _ [22, 1, 16, 17, 18, 23, 24, 25, 14, 26, 27, 28, 29, 30, 31, 32, 33, 34, 35, 40, 41, 42, 43, 44, 45] (by decide +kernel) (by decide +kernel)
set_option maxRecDepth 20000 in
theorem gX1_sow_X1_settle : GoodIn wsX1_sow (wsV RX1 56 RX1 yX1_settle wsX1_settle) := goodIn_app (goodIn_of _ (by decide +kernel)) ggX1_sow_X1_settle
set_option maxRecDepth 20000 in
theorem ggX1_sow_X1_has : GoodIn wsX1_sow wsX1_has := goodIn_r _ [26, 1, 40, 41, 42, 43, 44, 45] (by decide +kernel) (by decide +kernel)
set_option maxRecDepth 20000 in
theorem gX1_sow_X1_has : GoodIn wsX1_sow (wsV RX1 36 RX1 yX1_has wsX1_has) := goodIn_app (goodIn_of _ (by decide +kernel)) ggX1_sow_X1_has
set_option maxRecDepth 20000 in
theorem ggX1_sow_X1_setDepot : GoodIn wsX1_sow wsX1_setDepot := goodIn_r _ [39, 18, 10, 23, 24, 25, 14, 26, 1, 40, 41, 42, 43, 44, 45] (by decide +kernel) (by decide +kernel)
set_option maxRecDepth 20000 in
theorem gX1_sow_X1_setDepot : GoodIn wsX1_sow (wsV RX1 64 RX1 yX1_setDepot wsX1_setDepot) := goodIn_app (goodIn_of _ (by decide +kernel)) ggX1_sow_X1_setDepot
theorem dX1_sow_0 : decode cX1_sow 0 = .ok (.aload_n 0, 1) := by decide +kernel
theorem dX1_sow_1 : decode cX1_sow 1 = .ok (.invokevirtual 25, 3) := by decide +kernel
theorem dX1_sow_4 : decode cX1_sow 4 = .ok (.pop, 1) := by decide +kernel
theorem dX1_sow_5 : decode cX1_sow 5 = .ok (.iload_n 1, 1) := by decide +kernel
theorem dX1_sow_6 : decode cX1_sow 6 = .ok (.i2l, 1) := by decide +kernel
theorem dX1_sow_7 : decode cX1_sow 7 = .ok (.lstore_n 3, 1) := by decide +kernel
theorem dX1_sow_8 : decode cX1_sow 8 = .ok (.iconst 0, 1) := by decide +kernel
theorem dX1_sow_9 : decode cX1_sow 9 = .ok (.istore 5, 2) := by decide +kernel
theorem dX1_sow_11 : decode cX1_sow 11 = .ok (.iload 5, 2) := by decide +kernel
theorem dX1_sow_13 : decode cX1_sow 13 = .ok (.iload_n 2, 1) := by decide +kernel
theorem dX1_sow_14 : decode cX1_sow 14 = .ok (.if_icmp .ge 91, 3) := by decide +kernel
theorem dX1_sow_17 : decode cX1_sow 17 = .ok (.aload_n 0, 1) := by decide +kernel
theorem dX1_sow_18 : decode cX1_sow 18 = .ok (.getfield 29, 3) := by decide +kernel
theorem dX1_sow_21 : decode cX1_sow 21 = .ok (.ifCond .le 84, 3) := by decide +kernel
theorem dX1_sow_24 : decode cX1_sow 24 = .ok (.lload_n 3, 1) := by decide +kernel
theorem dX1_sow_25 : decode cX1_sow 25 = .ok (.ldc2_w 44, 3) := by decide +kernel
theorem dX1_sow_28 : decode cX1_sow 28 = .ok (.lmul, 1) := by decide +kernel
theorem dX1_sow_29 : decode cX1_sow 29 = .ok (.ldc2_w 46, 3) := by decide +kernel
theorem dX1_sow_32 : decode cX1_sow 32 = .ok (.ladd, 1) := by decide +kernel
theorem dX1_sow_33 : decode cX1_sow 33 = .ok (.ldc2_w 48, 3) := by decide +kernel
theorem dX1_sow_36 : decode cX1_sow 36 = .ok (.lrem, 1) := by decide +kernel
theorem dX1_sow_37 : decode cX1_sow 37 = .ok (.lstore_n 3, 1) := by decide +kernel
theorem dX1_sow_38 : decode cX1_sow 38 = .ok (.aload_n 0, 1) := by decide +kernel
theorem dX1_sow_39 : decode cX1_sow 39 = .ok (.lload_n 3, 1) := by decide +kernel
theorem dX1_sow_40 : decode cX1_sow 40 = .ok (.ldc2_w 50, 3) := by decide +kernel
theorem dX1_sow_43 : decode cX1_sow 43 = .ok (.ldiv, 1) := by decide +kernel
theorem dX1_sow_44 : decode cX1_sow 44 = .ok (.aload_n 0, 1) := by decide +kernel
theorem dX1_sow_45 : decode cX1_sow 45 = .ok (.getfield 29, 3) := by decide +kernel
theorem dX1_sow_48 : decode cX1_sow 48 = .ok (.i2l, 1) := by decide +kernel
theorem dX1_sow_49 : decode cX1_sow 49 = .ok (.lrem, 1) := by decide +kernel
theorem dX1_sow_50 : decode cX1_sow 50 = .ok (.l2i, 1) := by decide +kernel
theorem dX1_sow_51 : decode cX1_sow 51 = .ok (.lload_n 3, 1) := by decide +kernel
theorem dX1_sow_52 : decode cX1_sow 52 = .ok (.ldc2_w 52, 3) := by decide +kernel
theorem dX1_sow_55 : decode cX1_sow 55 = .ok (.ldiv, 1) := by decide +kernel
theorem dX1_sow_56 : decode cX1_sow 56 = .ok (.ldc2_w 54, 3) := by decide +kernel
theorem dX1_sow_59 : decode cX1_sow 59 = .ok (.lrem, 1) := by decide +kernel
theorem dX1_sow_60 : decode cX1_sow 60 = .ok (.l2i, 1) := by decide +kernel
theorem dX1_sow_61 : decode cX1_sow 61 = .ok (.iconst 1, 1) := by decide +kernel
theorem dX1_sow_62 : decode cX1_sow 62 = .ok (.iadd, 1) := by decide +kernel
theorem dX1_sow_63 : decode cX1_sow 63 = .ok (.invokevirtual 56, 3) := by decide +kernel
theorem dX1_sow_66 : decode cX1_sow 66 = .ok (.istore 6, 2) := by decide +kernel
theorem dX1_sow_68 : decode cX1_sow 68 = .ok (.aload_n 0, 1) := by decide +kernel
theorem dX1_sow_69 : decode cX1_sow 69 = .ok (.iload 6, 2) := by decide +kernel
theorem dX1_sow_71 : decode cX1_sow 71 = .ok (.invokevirtual 36, 3) := by decide +kernel
theorem dX1_sow_74 : decode cX1_sow 74 = .ok (.ifCond .eq 25, 3) := by decide +kernel
theorem dX1_sow_77 : decode cX1_sow 77 = .ok (.lload_n 3, 1) := by decide +kernel
theorem dX1_sow_78 : decode cX1_sow 78 = .ok (.ldc2_w 60, 3) := by decide +kernel
theorem dX1_sow_81 : decode cX1_sow 81 = .ok (.ldiv, 1) := by decide +kernel
theorem dX1_sow_82 : decode cX1_sow 82 = .ok (.ldc2_w 62, 3) := by decide +kernel
theorem dX1_sow_85 : decode cX1_sow 85 = .ok (.lrem, 1) := by decide +kernel
theorem dX1_sow_86 : decode cX1_sow 86 = .ok (.lconst 0, 1) := by decide +kernel
theorem dX1_sow_87 : decode cX1_sow 87 = .ok (.lcmp, 1) := by decide +kernel
theorem dX1_sow_88 : decode cX1_sow 88 = .ok (.ifCond .ne 11, 3) := by decide +kernel
theorem dX1_sow_91 : decode cX1_sow 91 = .ok (.aload_n 0, 1) := by decide +kernel
theorem dX1_sow_92 : decode cX1_sow 92 = .ok (.iload 6, 2) := by decide +kernel
theorem dX1_sow_94 : decode cX1_sow 94 = .ok (.iconst 1, 1) := by decide +kernel
theorem dX1_sow_95 : decode cX1_sow 95 = .ok (.invokevirtual 64, 3) := by decide +kernel
theorem dX1_sow_98 : decode cX1_sow 98 = .ok (.pop, 1) := by decide +kernel
theorem dX1_sow_99 : decode cX1_sow 99 = .ok (.iinc 5 1, 3) := by decide +kernel
theorem dX1_sow_102 : decode cX1_sow 102 = .ok (.goto (-91), 3) := by decide +kernel
theorem dX1_sow_105 : decode cX1_sow 105 = .ok (.aload_n 0, 1) := by decide +kernel
theorem dX1_sow_106 : decode cX1_sow 106 = .ok (.getfield 33, 3) := by decide +kernel
theorem dX1_sow_109 : decode cX1_sow 109 = .ok (.ireturn, 1) := by decide +kernel
set_option maxRecDepth 20000 in
theorem ggX1_aspect_X1_has : GoodIn wsX1_aspect wsX1_has := goodIn_r _ [8, 9, 14, 15, 16, 17, 18, 19] (by decide +kernel) (by decide +kernel)
set_option maxRecDepth 20000 in
theorem gX1_aspect_X1_has : GoodIn wsX1_aspect (wsV RX1 36 RX1 yX1_has wsX1_has) := goodIn_app (goodIn_of _ (by decide +kernel)) ggX1_aspect_X1_has
set_option maxRecDepth 20000 in
theorem ggX1_aspect_X1_countRoads : GoodIn wsX1_aspect wsX1_countRoads := goodIn_r _ [13, 9, 1, 14, 15, 16, 17, 18, 19] (by decide +kernel) (by decide +kernel)
set_option maxRecDepth 20000 in
theorem gX1_aspect_X1_countRoads : GoodIn wsX1_aspect (wsV RX1 68 RX1 yX1_countRoads wsX1_countRoads) := goodIn_app (goodIn_of _ (by decide +kernel)) ggX1_aspect_X1_countRoads
theorem dX1_aspect_0 : decode cX1_aspect 0 = .ok (.aload_n 0, 1) := by decide +kernel
theorem dX1_aspect_1 : decode cX1_aspect 1 = .ok (.iload_n 1, 1) := by decide +kernel
theorem dX1_aspect_2 : decode cX1_aspect 2 = .ok (.invokevirtual 36, 3) := by decide +kernel
theorem dX1_aspect_5 : decode cX1_aspect 5 = .ok (.ifCond .ne 5, 3) := by decide +kernel
theorem dX1_aspect_8 : decode cX1_aspect 8 = .ok (.iconst (-1), 1) := by decide +kernel
theorem dX1_aspect_9 : decode cX1_aspect 9 = .ok (.ireturn, 1) := by decide +kernel
theorem dX1_aspect_10 : decode cX1_aspect 10 = .ok (.iload_n 2, 1) := by decide +kernel
theorem dX1_aspect_11 : decode cX1_aspect 11 = .ok (.tableswitch 54 0 2 #[25, 32, 39], 25) := by decide +kernel
theorem dX1_aspect_36 : decode cX1_aspect 36 = .ok (.aload_n 0, 1) := by decide +kernel
theorem dX1_aspect_37 : decode cX1_aspect 37 = .ok (.getfield 9, 3) := by decide +kernel
theorem dX1_aspect_40 : decode cX1_aspect 40 = .ok (.iload_n 1, 1) := by decide +kernel
theorem dX1_aspect_41 : decode cX1_aspect 41 = .ok (.iaload, 1) := by decide +kernel
theorem dX1_aspect_42 : decode cX1_aspect 42 = .ok (.ireturn, 1) := by decide +kernel
theorem dX1_aspect_43 : decode cX1_aspect 43 = .ok (.aload_n 0, 1) := by decide +kernel
theorem dX1_aspect_44 : decode cX1_aspect 44 = .ok (.getfield 15, 3) := by decide +kernel
theorem dX1_aspect_47 : decode cX1_aspect 47 = .ok (.iload_n 1, 1) := by decide +kernel
theorem dX1_aspect_48 : decode cX1_aspect 48 = .ok (.iaload, 1) := by decide +kernel
theorem dX1_aspect_49 : decode cX1_aspect 49 = .ok (.ireturn, 1) := by decide +kernel
theorem dX1_aspect_50 : decode cX1_aspect 50 = .ok (.aload_n 0, 1) := by decide +kernel
theorem dX1_aspect_51 : decode cX1_aspect 51 = .ok (.getfield 18, 3) := by decide +kernel
theorem dX1_aspect_54 : decode cX1_aspect 54 = .ok (.iload_n 1, 1) := by decide +kernel
theorem dX1_aspect_55 : decode cX1_aspect 55 = .ok (.baload, 1) := by decide +kernel
theorem dX1_aspect_56 : decode cX1_aspect 56 = .ok (.ifCond .eq 7, 3) := by decide +kernel
theorem dX1_aspect_59 : decode cX1_aspect 59 = .ok (.iconst 1, 1) := by decide +kernel
theorem dX1_aspect_60 : decode cX1_aspect 60 = .ok (.goto 4, 3) := by decide +kernel
theorem dX1_aspect_63 : decode cX1_aspect 63 = .ok (.iconst 0, 1) := by decide +kernel
theorem dX1_aspect_64 : decode cX1_aspect 64 = .ok (.ireturn, 1) := by decide +kernel
theorem dX1_aspect_65 : decode cX1_aspect 65 = .ok (.aload_n 0, 1) := by decide +kernel
theorem dX1_aspect_66 : decode cX1_aspect 66 = .ok (.iload_n 1, 1) := by decide +kernel
theorem dX1_aspect_67 : decode cX1_aspect 67 = .ok (.invokevirtual 68, 3) := by decide +kernel
theorem dX1_aspect_70 : decode cX1_aspect 70 = .ok (.ireturn, 1) := by decide +kernel
theorem dX1_gap_0 : decode cX1_gap 0 = .ok (.iload_n 1, 1) := by decide +kernel
theorem dX1_gap_1 : decode cX1_gap 1 = .ok (.bipush 60, 2) := by decide +kernel
theorem dX1_gap_3 : decode cX1_gap 3 = .ok (.imul, 1) := by decide +kernel
theorem dX1_gap_4 : decode cX1_gap 4 = .ok (.iload_n 2, 1) := by decide +kernel
theorem dX1_gap_5 : decode cX1_gap 5 = .ok (.iadd, 1) := by decide +kernel
theorem dX1_gap_6 : decode cX1_gap 6 = .ok (.istore_n 3, 1) := by decide +kernel
theorem dX1_gap_7 : decode cX1_gap 7 = .ok (.iload_n 3, 1) := by decide +kernel
theorem dX1_gap_8 : decode cX1_gap 8 = .ok (.ifCond .lt 21, 3) := by decide +kernel
theorem dX1_gap_11 : decode cX1_gap 11 = .ok (.iload_n 3, 1) := by decide +kernel
theorem dX1_gap_12 : decode cX1_gap 12 = .ok (.aload_n 0, 1) := by decide +kernel
theorem dX1_gap_13 : decode cX1_gap 13 = .ok (.getfield 22, 3) := by decide +kernel
theorem dX1_gap_16 : decode cX1_gap 16 = .ok (.arraylength, 1) := by decide +kernel
theorem dX1_gap_17 : decode cX1_gap 17 = .ok (.if_icmp .ge 12, 3) := by decide +kernel
theorem dX1_gap_20 : decode cX1_gap 20 = .ok (.aload_n 0, 1) := by decide +kernel
theorem dX1_gap_21 : decode cX1_gap 21 = .ok (.getfield 22, 3) := by decide +kernel
theorem dX1_gap_24 : decode cX1_gap 24 = .ok (.iload_n 3, 1) := by decide +kernel
theorem dX1_gap_25 : decode cX1_gap 25 = .ok (.iaload, 1) := by decide +kernel
theorem dX1_gap_26 : decode cX1_gap 26 = .ok (.goto 4, 3) := by decide +kernel
theorem dX1_gap_29 : decode cX1_gap 29 = .ok (.iconst 0, 1) := by decide +kernel
theorem dX1_gap_30 : decode cX1_gap 30 = .ok (.ireturn, 1) := by decide +kernel
theorem dX1_countRoads_0 : decode cX1_countRoads 0 = .ok (.iload_n 1, 1) := by decide +kernel
theorem dX1_countRoads_1 : decode cX1_countRoads 1 = .ok (.ifCond .ne 7, 3) := by decide +kernel
theorem dX1_countRoads_4 : decode cX1_countRoads 4 = .ok (.iconst 0, 1) := by decide +kernel
theorem dX1_countRoads_5 : decode cX1_countRoads 5 = .ok (.goto 4, 3) := by decide +kernel
theorem dX1_countRoads_8 : decode cX1_countRoads 8 = .ok (.iconst 1, 1) := by decide +kernel
theorem dX1_countRoads_9 : decode cX1_countRoads 9 = .ok (.istore_n 2, 1) := by decide +kernel
theorem dX1_countRoads_10 : decode cX1_countRoads 10 = .ok (.iconst 1, 1) := by decide +kernel
theorem dX1_countRoads_11 : decode cX1_countRoads 11 = .ok (.istore_n 3, 1) := by decide +kernel
theorem dX1_countRoads_12 : decode cX1_countRoads 12 = .ok (.iload_n 3, 1) := by decide +kernel
theorem dX1_countRoads_13 : decode cX1_countRoads 13 = .ok (.aload_n 0, 1) := by decide +kernel
theorem dX1_countRoads_14 : decode cX1_countRoads 14 = .ok (.getfield 29, 3) := by decide +kernel
theorem dX1_countRoads_17 : decode cX1_countRoads 17 = .ok (.if_icmp .ge 22, 3) := by decide +kernel
theorem dX1_countRoads_20 : decode cX1_countRoads 20 = .ok (.aload_n 0, 1) := by decide +kernel
theorem dX1_countRoads_21 : decode cX1_countRoads 21 = .ok (.getfield 9, 3) := by decide +kernel
theorem dX1_countRoads_24 : decode cX1_countRoads 24 = .ok (.iload_n 3, 1) := by decide +kernel
theorem dX1_countRoads_25 : decode cX1_countRoads 25 = .ok (.iaload, 1) := by decide +kernel
theorem dX1_countRoads_26 : decode cX1_countRoads 26 = .ok (.iload_n 1, 1) := by decide +kernel
theorem dX1_countRoads_27 : decode cX1_countRoads 27 = .ok (.if_icmp .ne 6, 3) := by decide +kernel
theorem dX1_countRoads_30 : decode cX1_countRoads 30 = .ok (.iinc 2 1, 3) := by decide +kernel
theorem dX1_countRoads_33 : decode cX1_countRoads 33 = .ok (.iinc 3 1, 3) := by decide +kernel
theorem dX1_countRoads_36 : decode cX1_countRoads 36 = .ok (.goto (-24), 3) := by decide +kernel
theorem dX1_countRoads_39 : decode cX1_countRoads 39 = .ok (.iload_n 2, 1) := by decide +kernel
theorem dX1_countRoads_40 : decode cX1_countRoads 40 = .ok (.ireturn, 1) := by decide +kernel
set_option maxRecDepth 20000 in
theorem ggX1_measure_X1_has : GoodIn wsX1_measure wsX1_has := goodIn_r _ [8, 9, 14, 15, 16, 17, 18, 19] (by decide +kernel) (by decide +kernel)
set_option maxRecDepth 20000 in
theorem gX1_measure_X1_has : GoodIn wsX1_measure (wsV RX1 36 RX1 yX1_has wsX1_has) := goodIn_app (goodIn_of _ (by decide +kernel)) ggX1_measure_X1_has
set_option maxRecDepth 20000 in
theorem ggX1_measure_X1_gap : GoodIn wsX1_measure wsX1_gap := goodIn_r _ [13, 3, 14, 15, 16, 17, 18, 19] (by decide +kernel) (by decide +kernel)
set_option maxRecDepth 20000 in
theorem gX1_measure_X1_gap : GoodIn wsX1_measure (wsV RX1 72 RX1 yX1_gap wsX1_gap) := goodIn_app (goodIn_of _ (by decide +kernel)) ggX1_measure_X1_gap
theorem dX1_measure_0 : decode cX1_measure 0 = .ok (.aload_n 0, 1) := by decide +kernel
theorem dX1_measure_1 : decode cX1_measure 1 = .ok (.getfield 9, 3) := by decide +kernel
theorem dX1_measure_4 : decode cX1_measure 4 = .ok (.iload_n 1, 1) := by decide +kernel
theorem dX1_measure_5 : decode cX1_measure 5 = .ok (.iaload, 1) := by decide +kernel
theorem dX1_measure_6 : decode cX1_measure 6 = .ok (.istore_n 2, 1) := by decide +kernel
theorem dX1_measure_7 : decode cX1_measure 7 = .ok (.iconst 0, 1) := by decide +kernel
theorem dX1_measure_8 : decode cX1_measure 8 = .ok (.istore_n 3, 1) := by decide +kernel
theorem dX1_measure_9 : decode cX1_measure 9 = .ok (.iload_n 3, 1) := by decide +kernel
theorem dX1_measure_10 : decode cX1_measure 10 = .ok (.iload_n 1, 1) := by decide +kernel
theorem dX1_measure_11 : decode cX1_measure 11 = .ok (.if_icmp .ge 58, 3) := by decide +kernel
theorem dX1_measure_14 : decode cX1_measure 14 = .ok (.aload_n 0, 1) := by decide +kernel
theorem dX1_measure_15 : decode cX1_measure 15 = .ok (.iload_n 2, 1) := by decide +kernel
theorem dX1_measure_16 : decode cX1_measure 16 = .ok (.invokevirtual 36, 3) := by decide +kernel
theorem dX1_measure_19 : decode cX1_measure 19 = .ok (.ifCond .eq 50, 3) := by decide +kernel
theorem dX1_measure_22 : decode cX1_measure 22 = .ok (.aload_n 0, 1) := by decide +kernel
theorem dX1_measure_23 : decode cX1_measure 23 = .ok (.iload_n 2, 1) := by decide +kernel
theorem dX1_measure_24 : decode cX1_measure 24 = .ok (.iload_n 3, 1) := by decide +kernel
theorem dX1_measure_25 : decode cX1_measure 25 = .ok (.invokevirtual 72, 3) := by decide +kernel
theorem dX1_measure_28 : decode cX1_measure 28 = .ok (.aload_n 0, 1) := by decide +kernel
theorem dX1_measure_29 : decode cX1_measure 29 = .ok (.getfield 15, 3) := by decide +kernel
theorem dX1_measure_32 : decode cX1_measure 32 = .ok (.iload_n 1, 1) := by decide +kernel
theorem dX1_measure_33 : decode cX1_measure 33 = .ok (.iaload, 1) := by decide +kernel
theorem dX1_measure_34 : decode cX1_measure 34 = .ok (.iadd, 1) := by decide +kernel
theorem dX1_measure_35 : decode cX1_measure 35 = .ok (.istore 4, 2) := by decide +kernel
theorem dX1_measure_37 : decode cX1_measure 37 = .ok (.aload_n 0, 1) := by decide +kernel
theorem dX1_measure_38 : decode cX1_measure 38 = .ok (.getfield 22, 3) := by decide +kernel
theorem dX1_measure_41 : decode cX1_measure 41 = .ok (.iload_n 1, 1) := by decide +kernel
theorem dX1_measure_42 : decode cX1_measure 42 = .ok (.bipush 60, 2) := by decide +kernel
theorem dX1_measure_44 : decode cX1_measure 44 = .ok (.imul, 1) := by decide +kernel
theorem dX1_measure_45 : decode cX1_measure 45 = .ok (.iload_n 3, 1) := by decide +kernel
theorem dX1_measure_46 : decode cX1_measure 46 = .ok (.iadd, 1) := by decide +kernel
theorem dX1_measure_47 : decode cX1_measure 47 = .ok (.iload 4, 2) := by decide +kernel
theorem dX1_measure_49 : decode cX1_measure 49 = .ok (.iastore, 1) := by decide +kernel
theorem dX1_measure_50 : decode cX1_measure 50 = .ok (.aload_n 0, 1) := by decide +kernel
theorem dX1_measure_51 : decode cX1_measure 51 = .ok (.getfield 22, 3) := by decide +kernel
theorem dX1_measure_54 : decode cX1_measure 54 = .ok (.iload_n 3, 1) := by decide +kernel
theorem dX1_measure_55 : decode cX1_measure 55 = .ok (.bipush 60, 2) := by decide +kernel
theorem dX1_measure_57 : decode cX1_measure 57 = .ok (.imul, 1) := by decide +kernel
theorem dX1_measure_58 : decode cX1_measure 58 = .ok (.iload_n 1, 1) := by decide +kernel
theorem dX1_measure_59 : decode cX1_measure 59 = .ok (.iadd, 1) := by decide +kernel
theorem dX1_measure_60 : decode cX1_measure 60 = .ok (.iload 4, 2) := by decide +kernel
theorem dX1_measure_62 : decode cX1_measure 62 = .ok (.iastore, 1) := by decide +kernel
theorem dX1_measure_63 : decode cX1_measure 63 = .ok (.iinc 3 1, 3) := by decide +kernel
theorem dX1_measure_66 : decode cX1_measure 66 = .ok (.goto (-57), 3) := by decide +kernel
theorem dX1_measure_69 : decode cX1_measure 69 = .ok (.return_, 1) := by decide +kernel
theorem dX2_init_0 : decode cX2_init 0 = .ok (.aload_n 0, 1) := by decide +kernel
theorem dX2_init_1 : decode cX2_init 1 = .ok (.invokespecial 3, 3) := by decide +kernel
theorem dX2_init_4 : decode cX2_init 4 = .ok (.aload_n 0, 1) := by decide +kernel
theorem dX2_init_5 : decode cX2_init 5 = .ok (.sipush 400, 3) := by decide +kernel
theorem dX2_init_8 : decode cX2_init 8 = .ok (.newarray .byte, 2) := by decide +kernel
theorem dX2_init_10 : decode cX2_init 10 = .ok (.putfield 9, 3) := by decide +kernel
theorem dX2_init_13 : decode cX2_init 13 = .ok (.aload_n 0, 1) := by decide +kernel
theorem dX2_init_14 : decode cX2_init 14 = .ok (.iconst 0, 1) := by decide +kernel
theorem dX2_init_15 : decode cX2_init 15 = .ok (.putfield 15, 3) := by decide +kernel
theorem dX2_init_18 : decode cX2_init 18 = .ok (.return_, 1) := by decide +kernel
theorem dX2_empty_0 : decode cX2_empty 0 = .ok (.aload_n 0, 1) := by decide +kernel
theorem dX2_empty_1 : decode cX2_empty 1 = .ok (.iconst 0, 1) := by decide +kernel
theorem dX2_empty_2 : decode cX2_empty 2 = .ok (.putfield 15, 3) := by decide +kernel
theorem dX2_empty_5 : decode cX2_empty 5 = .ok (.return_, 1) := by decide +kernel
theorem dX2_put_0 : decode cX2_put 0 = .ok (.aload_n 0, 1) := by decide +kernel
theorem dX2_put_1 : decode cX2_put 1 = .ok (.getfield 15, 3) := by decide +kernel
theorem dX2_put_4 : decode cX2_put 4 = .ok (.sipush 400, 3) := by decide +kernel
theorem dX2_put_7 : decode cX2_put 7 = .ok (.if_icmp .ge 24, 3) := by decide +kernel
theorem dX2_put_10 : decode cX2_put 10 = .ok (.aload_n 0, 1) := by decide +kernel
theorem dX2_put_11 : decode cX2_put 11 = .ok (.getfield 9, 3) := by decide +kernel
theorem dX2_put_14 : decode cX2_put 14 = .ok (.aload_n 0, 1) := by decide +kernel
theorem dX2_put_15 : decode cX2_put 15 = .ok (.getfield 15, 3) := by decide +kernel
theorem dX2_put_18 : decode cX2_put 18 = .ok (.iload_n 1, 1) := by decide +kernel
theorem dX2_put_19 : decode cX2_put 19 = .ok (.i2b, 1) := by decide +kernel
theorem dX2_put_20 : decode cX2_put 20 = .ok (.bastore, 1) := by decide +kernel
theorem dX2_put_21 : decode cX2_put 21 = .ok (.aload_n 0, 1) := by decide +kernel
theorem dX2_put_22 : decode cX2_put 22 = .ok (.dup, 1) := by decide +kernel
theorem dX2_put_23 : decode cX2_put 23 = .ok (.getfield 15, 3) := by decide +kernel
theorem dX2_put_26 : decode cX2_put 26 = .ok (.iconst 1, 1) := by decide +kernel
theorem dX2_put_27 : decode cX2_put 27 = .ok (.iadd, 1) := by decide +kernel
theorem dX2_put_28 : decode cX2_put 28 = .ok (.putfield 15, 3) := by decide +kernel
theorem dX2_put_31 : decode cX2_put 31 = .ok (.return_, 1) := by decide +kernel
set_option maxRecDepth 20000 in
theorem ggX2_putNumber_X2_put : GoodIn wsX2_putNumber wsX2_put := goodIn_r _ [5, 6, 7, 8, 9] (by decide +kernel) (by decide +kernel)
set_option maxRecDepth 20000 in
theorem gX2_putNumber_X2_put : GoodIn wsX2_putNumber (wsV RX2 19 RX2 yX2_put wsX2_put) := goodIn_app (goodIn_of _ (by decide +kernel)) ggX2_putNumber_X2_put
theorem dX2_putNumber_0 : decode cX2_putNumber 0 = .ok (.iconst 1, 1) := by decide +kernel
theorem dX2_putNumber_1 : decode cX2_putNumber 1 = .ok (.istore_n 2, 1) := by decide +kernel
theorem dX2_putNumber_2 : decode cX2_putNumber 2 = .ok (.iconst 1, 1) := by decide +kernel
theorem dX2_putNumber_3 : decode cX2_putNumber 3 = .ok (.istore_n 3, 1) := by decide +kernel
theorem dX2_putNumber_4 : decode cX2_putNumber 4 = .ok (.iload_n 3, 1) := by decide +kernel
theorem dX2_putNumber_5 : decode cX2_putNumber 5 = .ok (.bipush 9, 2) := by decide +kernel
theorem dX2_putNumber_7 : decode cX2_putNumber 7 = .ok (.if_icmp .ge 22, 3) := by decide +kernel
theorem dX2_putNumber_10 : decode cX2_putNumber 10 = .ok (.iload_n 1, 1) := by decide +kernel
theorem dX2_putNumber_11 : decode cX2_putNumber 11 = .ok (.iload_n 2, 1) := by decide +kernel
theorem dX2_putNumber_12 : decode cX2_putNumber 12 = .ok (.idiv, 1) := by decide +kernel
theorem dX2_putNumber_13 : decode cX2_putNumber 13 = .ok (.bipush 10, 2) := by decide +kernel
theorem dX2_putNumber_15 : decode cX2_putNumber 15 = .ok (.if_icmp .lt 14, 3) := by decide +kernel
theorem dX2_putNumber_18 : decode cX2_putNumber 18 = .ok (.iload_n 2, 1) := by decide +kernel
theorem dX2_putNumber_19 : decode cX2_putNumber 19 = .ok (.bipush 10, 2) := by decide +kernel
theorem dX2_putNumber_21 : decode cX2_putNumber 21 = .ok (.imul, 1) := by decide +kernel
theorem dX2_putNumber_22 : decode cX2_putNumber 22 = .ok (.istore_n 2, 1) := by decide +kernel
theorem dX2_putNumber_23 : decode cX2_putNumber 23 = .ok (.iinc 3 1, 3) := by decide +kernel
theorem dX2_putNumber_26 : decode cX2_putNumber 26 = .ok (.goto (-22), 3) := by decide +kernel
theorem dX2_putNumber_29 : decode cX2_putNumber 29 = .ok (.iload_n 2, 1) := by decide +kernel
theorem dX2_putNumber_30 : decode cX2_putNumber 30 = .ok (.istore_n 3, 1) := by decide +kernel
theorem dX2_putNumber_31 : decode cX2_putNumber 31 = .ok (.iload_n 3, 1) := by decide +kernel
theorem dX2_putNumber_32 : decode cX2_putNumber 32 = .ok (.ifCond .le 24, 3) := by decide +kernel
theorem dX2_putNumber_35 : decode cX2_putNumber 35 = .ok (.aload_n 0, 1) := by decide +kernel
theorem dX2_putNumber_36 : decode cX2_putNumber 36 = .ok (.bipush 48, 2) := by decide +kernel
theorem dX2_putNumber_38 : decode cX2_putNumber 38 = .ok (.iload_n 1, 1) := by decide +kernel
theorem dX2_putNumber_39 : decode cX2_putNumber 39 = .ok (.iload_n 3, 1) := by decide +kernel
theorem dX2_putNumber_40 : decode cX2_putNumber 40 = .ok (.idiv, 1) := by decide +kernel
theorem dX2_putNumber_41 : decode cX2_putNumber 41 = .ok (.bipush 10, 2) := by decide +kernel
theorem dX2_putNumber_43 : decode cX2_putNumber 43 = .ok (.irem, 1) := by decide +kernel
theorem dX2_putNumber_44 : decode cX2_putNumber 44 = .ok (.iadd, 1) := by decide +kernel
theorem dX2_putNumber_45 : decode cX2_putNumber 45 = .ok (.invokevirtual 19, 3) := by decide +kernel
theorem dX2_putNumber_48 : decode cX2_putNumber 48 = .ok (.iload_n 3, 1) := by decide +kernel
theorem dX2_putNumber_49 : decode cX2_putNumber 49 = .ok (.bipush 10, 2) := by decide +kernel
theorem dX2_putNumber_51 : decode cX2_putNumber 51 = .ok (.idiv, 1) := by decide +kernel
theorem dX2_putNumber_52 : decode cX2_putNumber 52 = .ok (.istore_n 3, 1) := by decide +kernel
theorem dX2_putNumber_53 : decode cX2_putNumber 53 = .ok (.goto (-22), 3) := by decide +kernel
theorem dX2_putNumber_56 : decode cX2_putNumber 56 = .ok (.return_, 1) := by decide +kernel
theorem dX3_init_0 : decode cX3_init 0 = .ok (.aload_n 0, 1) := by decide +kernel
theorem dX3_init_1 : decode cX3_init 1 = .ok (.invokespecial 3, 3) := by decide +kernel
theorem dX3_init_4 : decode cX3_init 4 = .ok (.aload_n 0, 1) := by decide +kernel
theorem dX3_init_5 : decode cX3_init 5 = .ok (.bipush 30, 2) := by decide +kernel
theorem dX3_init_7 : decode cX3_init 7 = .ok (.newarray .int, 2) := by decide +kernel
theorem dX3_init_9 : decode cX3_init 9 = .ok (.putfield 9, 3) := by decide +kernel
theorem dX3_init_12 : decode cX3_init 12 = .ok (.aload_n 0, 1) := by decide +kernel
theorem dX3_init_13 : decode cX3_init 13 = .ok (.bipush 30, 2) := by decide +kernel
theorem dX3_init_15 : decode cX3_init 15 = .ok (.newarray .int, 2) := by decide +kernel
theorem dX3_init_17 : decode cX3_init 17 = .ok (.putfield 15, 3) := by decide +kernel
theorem dX3_init_20 : decode cX3_init 20 = .ok (.aload_n 0, 1) := by decide +kernel
theorem dX3_init_21 : decode cX3_init 21 = .ok (.bipush 30, 2) := by decide +kernel
theorem dX3_init_23 : decode cX3_init 23 = .ok (.newarray .int, 2) := by decide +kernel
theorem dX3_init_25 : decode cX3_init 25 = .ok (.putfield 18, 3) := by decide +kernel
theorem dX3_init_28 : decode cX3_init 28 = .ok (.aload_n 0, 1) := by decide +kernel
theorem dX3_init_29 : decode cX3_init 29 = .ok (.aload_n 1, 1) := by decide +kernel
theorem dX3_init_30 : decode cX3_init 30 = .ok (.putfield 21, 3) := by decide +kernel
theorem dX3_init_33 : decode cX3_init 33 = .ok (.return_, 1) := by decide +kernel
set_option maxRecDepth 20000 in
theorem ggX3_read_X3_readSentence : GoodIn wsX3_read wsX3_readSentence := goodIn_r _ [11, 3, 12, 13, 14, 10, 15, 2, 5, 6, 4, 16, 17, 18, 19, 20, 21, 22, 23, 24, 25, 26, 27, 28, 29, 30, 31, 32, 33, 34, 35, 36, 37, 38, 39, 40, 41, 42, 43, 44, 45, 46, 47, 48, 49, 50, 51, 52, 53, 54, 55, 56, 57, 58, 59, 60, 61, 62, 63, 64, 65, 66, 67, 68, 69, 70, 71, 72, 73, 74, 75, 76, 77, 78, 79, 80, 81, 82, 83, 84, 85, 86, 87, 88, 89, 90, 91, 92, 93, 94, 95, 96, 97, 98, 99, 100, 101, 102, 103, 104, 105, 106, 107, 108, 109, 110, 111, 112, 113, 114, 115, 116, 117, 118, 119, 120, 121, 1, 122, 123, 124, 125, 126, 127, 128, 129, 130, 131, 132, 133, 134] (by decide +kernel) (by decide +kernel)
set_option maxRecDepth 20000 in
theorem gX3_read_X3_readSentence : GoodIn wsX3_read (wsV RX3 43 RX3 yX3_readSentence wsX3_readSentence) := goodIn_app (goodIn_of _ (by decide +kernel)) ggX3_read_X3_readSentence
set_option maxRecDepth 20000 in
theorem ggX3_read_X3_skipBlanks : GoodIn wsX3_read wsX3_skipBlanks := goodIn_r _ [19, 2, 5, 6, 20, 21, 22, 23, 24, 25, 26, 125, 126, 127, 128, 129, 130, 131, 132, 133, 134] (by decide +kernel) (by decide +kernel)
set_option maxRecDepth 20000 in
theorem gX3_read_X3_skipBlanks : GoodIn wsX3_read (wsV RX3 46 RX3 yX3_skipBlanks wsX3_skipBlanks) := goodIn_app (goodIn_of _ (by decide +kernel)) ggX3_read_X3_skipBlanks
theorem dX3_read_0 : decode cX3_read 0 = .ok (.aload_n 0, 1) := by decide +kernel
theorem dX3_read_1 : decode cX3_read 1 = .ok (.iconst 0, 1) := by decide +kernel
theorem dX3_read_2 : decode cX3_read 2 = .ok (.putfield 25, 3) := by decide +kernel
theorem dX3_read_5 : decode cX3_read 5 = .ok (.aload_n 0, 1) := by decide +kernel
theorem dX3_read_6 : decode cX3_read 6 = .ok (.iconst 0, 1) := by decide +kernel
theorem dX3_read_7 : decode cX3_read 7 = .ok (.putfield 29, 3) := by decide +kernel
theorem dX3_read_10 : decode cX3_read 10 = .ok (.aload_n 0, 1) := by decide +kernel
theorem dX3_read_11 : decode cX3_read 11 = .ok (.iconst (-1), 1) := by decide +kernel
theorem dX3_read_12 : decode cX3_read 12 = .ok (.putfield 32, 3) := by decide +kernel
theorem dX3_read_15 : decode cX3_read 15 = .ok (.aload_n 0, 1) := by decide +kernel
theorem dX3_read_16 : decode cX3_read 16 = .ok (.iload_n 1, 1) := by decide +kernel
theorem dX3_read_17 : decode cX3_read 17 = .ok (.putfield 35, 3) := by decide +kernel
theorem dX3_read_20 : decode cX3_read 20 = .ok (.iconst 0, 1) := by decide +kernel
theorem dX3_read_21 : decode cX3_read 21 = .ok (.istore_n 2, 1) := by decide +kernel
theorem dX3_read_22 : decode cX3_read 22 = .ok (.iload_n 2, 1) := by decide +kernel
theorem dX3_read_23 : decode cX3_read 23 = .ok (.bipush 30, 2) := by decide +kernel
theorem dX3_read_25 : decode cX3_read 25 = .ok (.if_icmp .ge 43, 3) := by decide +kernel
theorem dX3_read_28 : decode cX3_read 28 = .ok (.aload_n 0, 1) := by decide +kernel
theorem dX3_read_29 : decode cX3_read 29 = .ok (.getfield 32, 3) := by decide +kernel
theorem dX3_read_32 : decode cX3_read 32 = .ok (.iconst (-1), 1) := by decide +kernel
theorem dX3_read_33 : decode cX3_read 33 = .ok (.if_icmp .ne 35, 3) := by decide +kernel
theorem dX3_read_36 : decode cX3_read 36 = .ok (.iload_n 2, 1) := by decide +kernel
theorem dX3_read_37 : decode cX3_read 37 = .ok (.ifCond .eq 17, 3) := by decide +kernel
theorem dX3_read_40 : decode cX3_read 40 = .ok (.aload_n 0, 1) := by decide +kernel
theorem dX3_read_41 : decode cX3_read 41 = .ok (.getfield 29, 3) := by decide +kernel
theorem dX3_read_44 : decode cX3_read 44 = .ok (.aload_n 0, 1) := by decide +kernel
theorem dX3_read_45 : decode cX3_read 45 = .ok (.getfield 21, 3) := by decide +kernel
theorem dX3_read_48 : decode cX3_read 48 = .ok (.getfield 38, 3) := by decide +kernel
theorem dX3_read_51 : decode cX3_read 51 = .ok (.if_icmp .ge 17, 3) := by decide +kernel
theorem dX3_read_54 : decode cX3_read 54 = .ok (.aload_n 0, 1) := by decide +kernel
theorem dX3_read_55 : decode cX3_read 55 = .ok (.invokevirtual 43, 3) := by decide +kernel
theorem dX3_read_58 : decode cX3_read 58 = .ok (.aload_n 0, 1) := by decide +kernel
theorem dX3_read_59 : decode cX3_read 59 = .ok (.invokevirtual 46, 3) := by decide +kernel
theorem dX3_read_62 : decode cX3_read 62 = .ok (.iinc 2 1, 3) := by decide +kernel
theorem dX3_read_65 : decode cX3_read 65 = .ok (.goto (-43), 3) := by decide +kernel
theorem dX3_read_68 : decode cX3_read 68 = .ok (.aload_n 0, 1) := by decide +kernel
theorem dX3_read_69 : decode cX3_read 69 = .ok (.getfield 32, 3) := by decide +kernel
theorem dX3_read_72 : decode cX3_read 72 = .ok (.ireturn, 1) := by decide +kernel
set_option maxRecDepth 20000 in
theorem ggX3_readSentence_X3_readWord : GoodIn wsX3_readSentence wsX3_readWord := goodIn_r _ [6, 7, 8, 9, 10, 1, 11, 12, 13, 5, 14, 15, 16, 17, 18, 19, 20, 21, 22, 23, 24, 25, 26, 27, 28, 29, 30, 31, 32, 33, 34, 35, 36, 37, 38, 39, 40, 41, 42, 43, 44, 45, 46, 47, 48, 49, 50, 51, 52, 53, 54, 55, 56, 57, 58, 59, 60, 61, 62, 63, 64, 65, 66, 67, 68, 69, 70, 71, 72, 73, 74, 75, 76, 77, 78, 79, 80, 81, 82, 83, 84, 85, 86, 121, 122, 123, 124, 125, 126, 127, 128, 129, 130] (by decide +kernel) (by decide +kernel)
set_option maxRecDepth 20000 in
theorem gX3_readSentence_X3_readWord : GoodIn wsX3_readSentence (wsV RX3 49 RX3 yX3_readWord wsX3_readWord) := goodIn_app (goodIn_of _ (by decide +kernel)) ggX3_readSentence_X3_readWord
set_option maxRecDepth 20000 in
theorem ggX3_readSentence_X7_firstNeed : GoodIn wsX3_readSentence wsX7_firstNeed := goodIn_r _ [89, 90] (by decide +kernel) (by decide +kernel)
set_option maxRecDepth 20000 in
theorem gX3_readSentence_X7_firstNeed : GoodIn wsX3_readSentence (va_wsS RX3 53 yX7_firstNeed wsX7_firstNeed) := goodIn_app (goodIn_of _ (by decide +kernel)) ggX3_readSentence_X7_firstNeed
set_option maxRecDepth 20000 in
theorem ggX3_readSentence_X3_readNumber : GoodIn wsX3_readSentence wsX3_readNumber := goodIn_r _ [94, 1, 7, 8, 9, 10, 11, 12, 13, 5, 14, 15, 16, 17, 18, 19, 20, 21, 95, 96, 97, 98, 26, 99, 100, 29, 101, 102, 103, 104, 121, 122, 123, 124, 125, 126, 127, 128, 129, 130] (by decide +kernel) (by decide +kernel)
set_option maxRecDepth 20000 in
theorem gX3_readSentence_X3_readNumber : GoodIn wsX3_readSentence (wsV RX3 59 RX3 yX3_readNumber wsX3_readNumber) := goodIn_app (goodIn_of _ (by decide +kernel)) ggX3_readSentence_X3_readNumber
set_option maxRecDepth 20000 in
theorem ggX3_readSentence_X7_secondNeed : GoodIn wsX3_readSentence wsX7_secondNeed := goodIn_r _ [107, 108] (by decide +kernel) (by decide +kernel)
set_option maxRecDepth 20000 in
theorem gX3_readSentence_X7_secondNeed : GoodIn wsX3_readSentence (va_wsS RX3 62 yX7_secondNeed wsX7_secondNeed) := goodIn_app (goodIn_of _ (by decide +kernel)) ggX3_readSentence_X7_secondNeed
set_option maxRecDepth 20000 in
theorem ggX3_readSentence_X3_readEnd : GoodIn wsX3_readSentence wsX3_readEnd := goodIn_r _ [112, 1, 8, 7, 11, 12, 13, 5, 14, 9, 15, 16, 17, 18, 19, 20, 21, 121, 122, 123, 124, 125, 126, 127, 128, 129, 130] (by decide +kernel) (by decide +kernel)
set_option maxRecDepth 20000 in
theorem gX3_readSentence_X3_readEnd : GoodIn wsX3_readSentence (wsV RX3 65 RX3 yX3_readEnd wsX3_readEnd) := goodIn_app (goodIn_of _ (by decide +kernel)) ggX3_readSentence_X3_readEnd
set_option maxRecDepth 20000 in
theorem ggX3_readSentence_X3_keep : GoodIn wsX3_readSentence wsX3_keep := goodIn_r _ [116, 117, 118, 119, 120, 10, 121, 122, 123, 124, 125, 126, 127, 128] (by decide +kernel) (by decide +kernel)
set_option maxRecDepth 20000 in
theorem gX3_readSentence_X3_keep : GoodIn wsX3_readSentence (wsV RX3 68 RX3 yX3_keep wsX3_keep) := goodIn_app (goodIn_of _ (by decide +kernel)) ggX3_readSentence_X3_keep
theorem dX3_readSentence_0 : decode cX3_readSentence 0 = .ok (.aload_n 0, 1) := by decide +kernel
theorem dX3_readSentence_1 : decode cX3_readSentence 1 = .ok (.invokevirtual 49, 3) := by decide +kernel
theorem dX3_readSentence_4 : decode cX3_readSentence 4 = .ok (.istore_n 1, 1) := by decide +kernel
theorem dX3_readSentence_5 : decode cX3_readSentence 5 = .ok (.aload_n 0, 1) := by decide +kernel
theorem dX3_readSentence_6 : decode cX3_readSentence 6 = .ok (.iload_n 1, 1) := by decide +kernel
theorem dX3_readSentence_7 : decode cX3_readSentence 7 = .ok (.invokestatic 53, 3) := by decide +kernel
theorem dX3_readSentence_10 : decode cX3_readSentence 10 = .ok (.invokevirtual 59, 3) := by decide +kernel
theorem dX3_readSentence_13 : decode cX3_readSentence 13 = .ok (.istore_n 2, 1) := by decide +kernel
theorem dX3_readSentence_14 : decode cX3_readSentence 14 = .ok (.aload_n 0, 1) := by decide +kernel
theorem dX3_readSentence_15 : decode cX3_readSentence 15 = .ok (.iload_n 1, 1) := by decide +kernel
theorem dX3_readSentence_16 : decode cX3_readSentence 16 = .ok (.invokestatic 62, 3) := by decide +kernel
theorem dX3_readSentence_19 : decode cX3_readSentence 19 = .ok (.invokevirtual 59, 3) := by decide +kernel
theorem dX3_readSentence_22 : decode cX3_readSentence 22 = .ok (.istore_n 3, 1) := by decide +kernel
theorem dX3_readSentence_23 : decode cX3_readSentence 23 = .ok (.aload_n 0, 1) := by decide +kernel
theorem dX3_readSentence_24 : decode cX3_readSentence 24 = .ok (.invokevirtual 65, 3) := by decide +kernel
theorem dX3_readSentence_27 : decode cX3_readSentence 27 = .ok (.aload_n 0, 1) := by decide +kernel
theorem dX3_readSentence_28 : decode cX3_readSentence 28 = .ok (.getfield 32, 3) := by decide +kernel
theorem dX3_readSentence_31 : decode cX3_readSentence 31 = .ok (.iconst (-1), 1) := by decide +kernel
theorem dX3_readSentence_32 : decode cX3_readSentence 32 = .ok (.if_icmp .ne 10, 3) := by decide +kernel
theorem dX3_readSentence_35 : decode cX3_readSentence 35 = .ok (.aload_n 0, 1) := by decide +kernel
theorem dX3_readSentence_36 : decode cX3_readSentence 36 = .ok (.iload_n 1, 1) := by decide +kernel
theorem dX3_readSentence_37 : decode cX3_readSentence 37 = .ok (.iload_n 2, 1) := by decide +kernel
theorem dX3_readSentence_38 : decode cX3_readSentence 38 = .ok (.iload_n 3, 1) := by decide +kernel
theorem dX3_readSentence_39 : decode cX3_readSentence 39 = .ok (.invokevirtual 68, 3) := by decide +kernel
theorem dX3_readSentence_42 : decode cX3_readSentence 42 = .ok (.return_, 1) := by decide +kernel
set_option maxRecDepth 20000 in
theorem ggX3_readWord_X3_skipBlanks : GoodIn wsX3_readWord wsX3_skipBlanks := goodIn_r _ [10, 1, 2, 3, 11, 12, 13, 14, 15, 16, 17, 83, 84, 85, 86, 87, 88, 89, 90, 91, 92] (by decide +kernel) (by decide +kernel)
set_option maxRecDepth 20000 in
theorem gX3_readWord_X3_skipBlanks : GoodIn wsX3_readWord (wsV RX3 46 RX3 yX3_skipBlanks wsX3_skipBlanks) := goodIn_app (goodIn_of _ (by decide +kernel)) ggX3_readWord_X3_skipBlanks
set_option maxRecDepth 20000 in
theorem ggX3_readWord_X5_isLetter : GoodIn wsX3_readWord wsX5_isLetter := goodIn_r _ [21, 22, 12, 13, 14, 15, 16, 17, 91, 92] (by decide +kernel) (by decide +kernel)
set_option maxRecDepth 20000 in
theorem gX3_readWord_X5_isLetter : GoodIn wsX3_readWord (wsV RX3 72 RX5 yX5_isLetter wsX5_isLetter) := goodIn_app (goodIn_of _ (by decide +kernel)) ggX3_readWord_X5_isLetter
set_option maxRecDepth 20000 in
theorem ggX3_readWord_X7_find : GoodIn wsX3_readWord wsX7_find := goodIn_r _ [26, 27, 28, 25, 29, 30, 31, 32, 14, 33, 34, 35, 36, 37, 38, 39, 40, 41, 42, 43, 44, 45, 22, 12, 13, 15, 16, 17, 46, 47, 48, 49, 50, 51, 52, 53, 54, 55, 56, 57, 58, 59, 60, 61, 62, 63, 64, 65, 66, 67, 68, 69, 70, 71, 72, 73, 74, 75, 76, 77, 78, 79, 80, 81, 82, 91, 92] (by decide +kernel) (by decide +kernel)
set_option maxRecDepth 20000 in
theorem gX3_readWord_X7_find : GoodIn wsX3_readWord (va_wsS RX3 76 yX7_find wsX7_find) := goodIn_app (goodIn_of _ (by decide +kernel)) ggX3_readWord_X7_find
theorem dX3_readWord_0 : decode cX3_readWord 0 = .ok (.aload_n 0, 1) := by decide +kernel
theorem dX3_readWord_1 : decode cX3_readWord 1 = .ok (.invokevirtual 46, 3) := by decide +kernel
theorem dX3_readWord_4 : decode cX3_readWord 4 = .ok (.aload_n 0, 1) := by decide +kernel
theorem dX3_readWord_5 : decode cX3_readWord 5 = .ok (.getfield 29, 3) := by decide +kernel
theorem dX3_readWord_8 : decode cX3_readWord 8 = .ok (.istore_n 1, 1) := by decide +kernel
theorem dX3_readWord_9 : decode cX3_readWord 9 = .ok (.aload_n 0, 1) := by decide +kernel
theorem dX3_readWord_10 : decode cX3_readWord 10 = .ok (.getfield 29, 3) := by decide +kernel
theorem dX3_readWord_13 : decode cX3_readWord 13 = .ok (.aload_n 0, 1) := by decide +kernel
theorem dX3_readWord_14 : decode cX3_readWord 14 = .ok (.getfield 21, 3) := by decide +kernel
theorem dX3_readWord_17 : decode cX3_readWord 17 = .ok (.getfield 38, 3) := by decide +kernel
theorem dX3_readWord_20 : decode cX3_readWord 20 = .ok (.if_icmp .ge 30, 3) := by decide +kernel
theorem dX3_readWord_23 : decode cX3_readWord 23 = .ok (.aload_n 0, 1) := by decide +kernel
theorem dX3_readWord_24 : decode cX3_readWord 24 = .ok (.getfield 21, 3) := by decide +kernel
theorem dX3_readWord_27 : decode cX3_readWord 27 = .ok (.aload_n 0, 1) := by decide +kernel
theorem dX3_readWord_28 : decode cX3_readWord 28 = .ok (.getfield 29, 3) := by decide +kernel
theorem dX3_readWord_31 : decode cX3_readWord 31 = .ok (.invokevirtual 72, 3) := by decide +kernel
theorem dX3_readWord_34 : decode cX3_readWord 34 = .ok (.ifCond .eq 16, 3) := by decide +kernel
theorem dX3_readWord_37 : decode cX3_readWord 37 = .ok (.aload_n 0, 1) := by decide +kernel
theorem dX3_readWord_38 : decode cX3_readWord 38 = .ok (.dup, 1) := by decide +kernel
theorem dX3_readWord_39 : decode cX3_readWord 39 = .ok (.getfield 29, 3) := by decide +kernel
theorem dX3_readWord_42 : decode cX3_readWord 42 = .ok (.iconst 1, 1) := by decide +kernel
theorem dX3_readWord_43 : decode cX3_readWord 43 = .ok (.iadd, 1) := by decide +kernel
theorem dX3_readWord_44 : decode cX3_readWord 44 = .ok (.putfield 29, 3) := by decide +kernel
theorem dX3_readWord_47 : decode cX3_readWord 47 = .ok (.goto (-38), 3) := by decide +kernel
theorem dX3_readWord_50 : decode cX3_readWord 50 = .ok (.aload_n 0, 1) := by decide +kernel
theorem dX3_readWord_51 : decode cX3_readWord 51 = .ok (.getfield 21, 3) := by decide +kernel
theorem dX3_readWord_54 : decode cX3_readWord 54 = .ok (.iload_n 1, 1) := by decide +kernel
theorem dX3_readWord_55 : decode cX3_readWord 55 = .ok (.aload_n 0, 1) := by decide +kernel
theorem dX3_readWord_56 : decode cX3_readWord 56 = .ok (.getfield 29, 3) := by decide +kernel
theorem dX3_readWord_59 : decode cX3_readWord 59 = .ok (.invokestatic 76, 3) := by decide +kernel
theorem dX3_readWord_62 : decode cX3_readWord 62 = .ok (.istore_n 2, 1) := by decide +kernel
theorem dX3_readWord_63 : decode cX3_readWord 63 = .ok (.iload_n 2, 1) := by decide +kernel
theorem dX3_readWord_64 : decode cX3_readWord 64 = .ok (.iconst (-1), 1) := by decide +kernel
theorem dX3_readWord_65 : decode cX3_readWord 65 = .ok (.if_icmp .eq 16, 3) := by decide +kernel
theorem dX3_readWord_68 : decode cX3_readWord 68 = .ok (.iload_n 2, 1) := by decide +kernel
theorem dX3_readWord_69 : decode cX3_readWord 69 = .ok (.ifCond .ne 17, 3) := by decide +kernel
theorem dX3_readWord_72 : decode cX3_readWord 72 = .ok (.aload_n 0, 1) := by decide +kernel
theorem dX3_readWord_73 : decode cX3_readWord 73 = .ok (.getfield 35, 3) := by decide +kernel
theorem dX3_readWord_76 : decode cX3_readWord 76 = .ok (.bipush 60, 2) := by decide +kernel
theorem dX3_readWord_78 : decode cX3_readWord 78 = .ok (.if_icmp .lt 8, 3) := by decide +kernel
theorem dX3_readWord_81 : decode cX3_readWord 81 = .ok (.aload_n 0, 1) := by decide +kernel
theorem dX3_readWord_82 : decode cX3_readWord 82 = .ok (.iload_n 1, 1) := by decide +kernel
theorem dX3_readWord_83 : decode cX3_readWord 83 = .ok (.putfield 32, 3) := by decide +kernel
theorem dX3_readWord_86 : decode cX3_readWord 86 = .ok (.iload_n 2, 1) := by decide +kernel
theorem dX3_readWord_87 : decode cX3_readWord 87 = .ok (.ireturn, 1) := by decide +kernel
set_option maxRecDepth 20000 in
theorem ggX3_readNumber_X3_skipBlanks : GoodIn wsX3_readNumber wsX3_skipBlanks := goodIn_r _ [10, 2, 3, 4, 11, 12, 13, 14, 15, 16, 17, 30, 31, 32, 33, 34, 35, 36, 37, 38, 39] (by decide +kernel) (by decide +kernel)
set_option maxRecDepth 20000 in
theorem gX3_readNumber_X3_skipBlanks : GoodIn wsX3_readNumber (wsV RX3 46 RX3 yX3_skipBlanks wsX3_skipBlanks) := goodIn_app (goodIn_of _ (by decide +kernel)) ggX3_readNumber_X3_skipBlanks
set_option maxRecDepth 20000 in
theorem ggX3_readNumber_X5_isFigure : GoodIn wsX3_readNumber wsX5_isFigure := goodIn_r _ [21, 22, 12, 13, 14, 15, 16, 17, 38, 39] (by decide +kernel) (by decide +kernel)
set_option maxRecDepth 20000 in
theorem gX3_readNumber_X5_isFigure : GoodIn wsX3_readNumber (wsV RX3 80 RX5 yX5_isFigure wsX5_isFigure) := goodIn_app (goodIn_of _ (by decide +kernel)) ggX3_readNumber_X5_isFigure
set_option maxRecDepth 20000 in
theorem ggX3_readNumber_X5_byteAt : GoodIn wsX3_readNumber wsX5_byteAt := goodIn_r _ [15, 16, 17, 38, 39] (by decide +kernel) (by decide +kernel)
set_option maxRecDepth 20000 in
theorem gX3_readNumber_X5_byteAt : GoodIn wsX3_readNumber (wsV RX3 83 RX5 yX5_byteAt wsX5_byteAt) := goodIn_app (goodIn_of _ (by decide +kernel)) ggX3_readNumber_X5_byteAt
set_option maxRecDepth 20000 in
theorem ggX3_readNumber_X7_suits : GoodIn wsX3_readNumber wsX7_suits := goodIn_r _ [26, 27, 28, 29] (by decide +kernel) (by decide +kernel)
set_option maxRecDepth 20000 in
theorem gX3_readNumber_X7_suits : GoodIn wsX3_readNumber (va_wsS RX3 86 yX7_suits wsX7_suits) := goodIn_app (goodIn_of _ (by decide +kernel)) ggX3_readNumber_X7_suits
theorem dX3_readNumber_0 : decode cX3_readNumber 0 = .ok (.aload_n 0, 1) := by decide +kernel
theorem dX3_readNumber_1 : decode cX3_readNumber 1 = .ok (.getfield 32, 3) := by decide +kernel
theorem dX3_readNumber_4 : decode cX3_readNumber 4 = .ok (.iconst (-1), 1) := by decide +kernel
theorem dX3_readNumber_5 : decode cX3_readNumber 5 = .ok (.if_icmp .ne 7, 3) := by decide +kernel
theorem dX3_readNumber_8 : decode cX3_readNumber 8 = .ok (.iload_n 1, 1) := by decide +kernel
theorem dX3_readNumber_9 : decode cX3_readNumber 9 = .ok (.ifCond .ne 5, 3) := by decide +kernel
theorem dX3_readNumber_12 : decode cX3_readNumber 12 = .ok (.iconst 0, 1) := by decide +kernel
theorem dX3_readNumber_13 : decode cX3_readNumber 13 = .ok (.ireturn, 1) := by decide +kernel
theorem dX3_readNumber_14 : decode cX3_readNumber 14 = .ok (.aload_n 0, 1) := by decide +kernel
theorem dX3_readNumber_15 : decode cX3_readNumber 15 = .ok (.invokevirtual 46, 3) := by decide +kernel
theorem dX3_readNumber_18 : decode cX3_readNumber 18 = .ok (.aload_n 0, 1) := by decide +kernel
theorem dX3_readNumber_19 : decode cX3_readNumber 19 = .ok (.getfield 29, 3) := by decide +kernel
theorem dX3_readNumber_22 : decode cX3_readNumber 22 = .ok (.istore_n 2, 1) := by decide +kernel
theorem dX3_readNumber_23 : decode cX3_readNumber 23 = .ok (.iconst 0, 1) := by decide +kernel
theorem dX3_readNumber_24 : decode cX3_readNumber 24 = .ok (.istore_n 3, 1) := by decide +kernel
theorem dX3_readNumber_25 : decode cX3_readNumber 25 = .ok (.aload_n 0, 1) := by decide +kernel
theorem dX3_readNumber_26 : decode cX3_readNumber 26 = .ok (.getfield 29, 3) := by decide +kernel
theorem dX3_readNumber_29 : decode cX3_readNumber 29 = .ok (.aload_n 0, 1) := by decide +kernel
theorem dX3_readNumber_30 : decode cX3_readNumber 30 = .ok (.getfield 21, 3) := by decide +kernel
theorem dX3_readNumber_33 : decode cX3_readNumber 33 = .ok (.getfield 38, 3) := by decide +kernel
theorem dX3_readNumber_36 : decode cX3_readNumber 36 = .ok (.if_icmp .ge 50, 3) := by decide +kernel
theorem dX3_readNumber_39 : decode cX3_readNumber 39 = .ok (.aload_n 0, 1) := by decide +kernel
theorem dX3_readNumber_40 : decode cX3_readNumber 40 = .ok (.getfield 21, 3) := by decide +kernel
theorem dX3_readNumber_43 : decode cX3_readNumber 43 = .ok (.aload_n 0, 1) := by decide +kernel
theorem dX3_readNumber_44 : decode cX3_readNumber 44 = .ok (.getfield 29, 3) := by decide +kernel
theorem dX3_readNumber_47 : decode cX3_readNumber 47 = .ok (.invokevirtual 80, 3) := by decide +kernel
theorem dX3_readNumber_50 : decode cX3_readNumber 50 = .ok (.ifCond .eq 36, 3) := by decide +kernel
theorem dX3_readNumber_53 : decode cX3_readNumber 53 = .ok (.iload_n 3, 1) := by decide +kernel
theorem dX3_readNumber_54 : decode cX3_readNumber 54 = .ok (.bipush 10, 2) := by decide +kernel
theorem dX3_readNumber_56 : decode cX3_readNumber 56 = .ok (.imul, 1) := by decide +kernel
theorem dX3_readNumber_57 : decode cX3_readNumber 57 = .ok (.aload_n 0, 1) := by decide +kernel
theorem dX3_readNumber_58 : decode cX3_readNumber 58 = .ok (.getfield 21, 3) := by decide +kernel
theorem dX3_readNumber_61 : decode cX3_readNumber 61 = .ok (.aload_n 0, 1) := by decide +kernel
theorem dX3_readNumber_62 : decode cX3_readNumber 62 = .ok (.getfield 29, 3) := by decide +kernel
theorem dX3_readNumber_65 : decode cX3_readNumber 65 = .ok (.invokevirtual 83, 3) := by decide +kernel
theorem dX3_readNumber_68 : decode cX3_readNumber 68 = .ok (.iadd, 1) := by decide +kernel
theorem dX3_readNumber_69 : decode cX3_readNumber 69 = .ok (.bipush 48, 2) := by decide +kernel
theorem dX3_readNumber_71 : decode cX3_readNumber 71 = .ok (.isub, 1) := by decide +kernel
theorem dX3_readNumber_72 : decode cX3_readNumber 72 = .ok (.istore_n 3, 1) := by decide +kernel
theorem dX3_readNumber_73 : decode cX3_readNumber 73 = .ok (.aload_n 0, 1) := by decide +kernel
theorem dX3_readNumber_74 : decode cX3_readNumber 74 = .ok (.dup, 1) := by decide +kernel
theorem dX3_readNumber_75 : decode cX3_readNumber 75 = .ok (.getfield 29, 3) := by decide +kernel
theorem dX3_readNumber_78 : decode cX3_readNumber 78 = .ok (.iconst 1, 1) := by decide +kernel
theorem dX3_readNumber_79 : decode cX3_readNumber 79 = .ok (.iadd, 1) := by decide +kernel
theorem dX3_readNumber_80 : decode cX3_readNumber 80 = .ok (.putfield 29, 3) := by decide +kernel
theorem dX3_readNumber_83 : decode cX3_readNumber 83 = .ok (.goto (-58), 3) := by decide +kernel
theorem dX3_readNumber_86 : decode cX3_readNumber 86 = .ok (.aload_n 0, 1) := by decide +kernel
theorem dX3_readNumber_87 : decode cX3_readNumber 87 = .ok (.getfield 29, 3) := by decide +kernel
theorem dX3_readNumber_90 : decode cX3_readNumber 90 = .ok (.iload_n 2, 1) := by decide +kernel
theorem dX3_readNumber_91 : decode cX3_readNumber 91 = .ok (.isub, 1) := by decide +kernel
theorem dX3_readNumber_92 : decode cX3_readNumber 92 = .ok (.istore 4, 2) := by decide +kernel
theorem dX3_readNumber_94 : decode cX3_readNumber 94 = .ok (.iload 4, 2) := by decide +kernel
theorem dX3_readNumber_96 : decode cX3_readNumber 96 = .ok (.iconst 1, 1) := by decide +kernel
theorem dX3_readNumber_97 : decode cX3_readNumber 97 = .ok (.if_icmp .lt 21, 3) := by decide +kernel
theorem dX3_readNumber_100 : decode cX3_readNumber 100 = .ok (.iload 4, 2) := by decide +kernel
theorem dX3_readNumber_102 : decode cX3_readNumber 102 = .ok (.iconst 2, 1) := by decide +kernel
theorem dX3_readNumber_103 : decode cX3_readNumber 103 = .ok (.if_icmp .gt 15, 3) := by decide +kernel
theorem dX3_readNumber_106 : decode cX3_readNumber 106 = .ok (.iload_n 1, 1) := by decide +kernel
theorem dX3_readNumber_107 : decode cX3_readNumber 107 = .ok (.iload_n 3, 1) := by decide +kernel
theorem dX3_readNumber_108 : decode cX3_readNumber 108 = .ok (.aload_n 0, 1) := by decide +kernel
theorem dX3_readNumber_109 : decode cX3_readNumber 109 = .ok (.getfield 35, 3) := by decide +kernel
theorem dX3_readNumber_112 : decode cX3_readNumber 112 = .ok (.invokestatic 86, 3) := by decide +kernel
theorem dX3_readNumber_115 : decode cX3_readNumber 115 = .ok (.ifCond .ne 8, 3) := by decide +kernel
theorem dX3_readNumber_118 : decode cX3_readNumber 118 = .ok (.aload_n 0, 1) := by decide +kernel
theorem dX3_readNumber_119 : decode cX3_readNumber 119 = .ok (.iload_n 2, 1) := by decide +kernel
theorem dX3_readNumber_120 : decode cX3_readNumber 120 = .ok (.putfield 32, 3) := by decide +kernel
theorem dX3_readNumber_123 : decode cX3_readNumber 123 = .ok (.iload_n 3, 1) := by decide +kernel
theorem dX3_readNumber_124 : decode cX3_readNumber 124 = .ok (.ireturn, 1) := by decide +kernel
set_option maxRecDepth 20000 in
theorem ggX3_readEnd_X3_skipBlanks : GoodIn wsX3_readEnd wsX3_skipBlanks := goodIn_r _ [8, 3, 2, 9, 10, 11, 12, 13, 14, 15, 16, 17, 18, 19, 20, 21, 22, 23, 24, 25, 26] (by decide +kernel) (by decide +kernel)
set_option maxRecDepth 20000 in
theorem gX3_readEnd_X3_skipBlanks : GoodIn wsX3_readEnd (wsV RX3 46 RX3 yX3_skipBlanks wsX3_skipBlanks) := goodIn_app (goodIn_of _ (by decide +kernel)) ggX3_readEnd_X3_skipBlanks
set_option maxRecDepth 20000 in
theorem ggX3_readEnd_X5_byteAt : GoodIn wsX3_readEnd wsX5_byteAt := goodIn_r _ [14, 15, 16, 25, 26] (by decide +kernel) (by decide +kernel)
set_option maxRecDepth 20000 in
theorem gX3_readEnd_X5_byteAt : GoodIn wsX3_readEnd (wsV RX3 83 RX5 yX5_byteAt wsX5_byteAt) := goodIn_app (goodIn_of _ (by decide +kernel)) ggX3_readEnd_X5_byteAt
theorem dX3_readEnd_0 : decode cX3_readEnd 0 = .ok (.aload_n 0, 1) := by decide +kernel
theorem dX3_readEnd_1 : decode cX3_readEnd 1 = .ok (.getfield 32, 3) := by decide +kernel
theorem dX3_readEnd_4 : decode cX3_readEnd 4 = .ok (.iconst (-1), 1) := by decide +kernel
theorem dX3_readEnd_5 : decode cX3_readEnd 5 = .ok (.if_icmp .eq 4, 3) := by decide +kernel
theorem dX3_readEnd_8 : decode cX3_readEnd 8 = .ok (.return_, 1) := by decide +kernel
theorem dX3_readEnd_9 : decode cX3_readEnd 9 = .ok (.aload_n 0, 1) := by decide +kernel
theorem dX3_readEnd_10 : decode cX3_readEnd 10 = .ok (.invokevirtual 46, 3) := by decide +kernel
theorem dX3_readEnd_13 : decode cX3_readEnd 13 = .ok (.aload_n 0, 1) := by decide +kernel
theorem dX3_readEnd_14 : decode cX3_readEnd 14 = .ok (.getfield 21, 3) := by decide +kernel
theorem dX3_readEnd_17 : decode cX3_readEnd 17 = .ok (.aload_n 0, 1) := by decide +kernel
theorem dX3_readEnd_18 : decode cX3_readEnd 18 = .ok (.getfield 29, 3) := by decide +kernel
theorem dX3_readEnd_21 : decode cX3_readEnd 21 = .ok (.invokevirtual 83, 3) := by decide +kernel
theorem dX3_readEnd_24 : decode cX3_readEnd 24 = .ok (.bipush 59, 2) := by decide +kernel
theorem dX3_readEnd_26 : decode cX3_readEnd 26 = .ok (.if_icmp .ne 16, 3) := by decide +kernel
theorem dX3_readEnd_29 : decode cX3_readEnd 29 = .ok (.aload_n 0, 1) := by decide +kernel
theorem dX3_readEnd_30 : decode cX3_readEnd 30 = .ok (.dup, 1) := by decide +kernel
theorem dX3_readEnd_31 : decode cX3_readEnd 31 = .ok (.getfield 29, 3) := by decide +kernel
theorem dX3_readEnd_34 : decode cX3_readEnd 34 = .ok (.iconst 1, 1) := by decide +kernel
theorem dX3_readEnd_35 : decode cX3_readEnd 35 = .ok (.iadd, 1) := by decide +kernel
theorem dX3_readEnd_36 : decode cX3_readEnd 36 = .ok (.putfield 29, 3) := by decide +kernel
theorem dX3_readEnd_39 : decode cX3_readEnd 39 = .ok (.goto 11, 3) := by decide +kernel
theorem dX3_readEnd_42 : decode cX3_readEnd 42 = .ok (.aload_n 0, 1) := by decide +kernel
theorem dX3_readEnd_43 : decode cX3_readEnd 43 = .ok (.aload_n 0, 1) := by decide +kernel
theorem dX3_readEnd_44 : decode cX3_readEnd 44 = .ok (.getfield 29, 3) := by decide +kernel
theorem dX3_readEnd_47 : decode cX3_readEnd 47 = .ok (.putfield 32, 3) := by decide +kernel
theorem dX3_readEnd_50 : decode cX3_readEnd 50 = .ok (.return_, 1) := by decide +kernel
theorem dX3_keep_0 : decode cX3_keep 0 = .ok (.aload_n 0, 1) := by decide +kernel
theorem dX3_keep_1 : decode cX3_keep 1 = .ok (.getfield 25, 3) := by decide +kernel
theorem dX3_keep_4 : decode cX3_keep 4 = .ok (.bipush 30, 2) := by decide +kernel
theorem dX3_keep_6 : decode cX3_keep 6 = .ok (.if_icmp .ge 43, 3) := by decide +kernel
theorem dX3_keep_9 : decode cX3_keep 9 = .ok (.aload_n 0, 1) := by decide +kernel
theorem dX3_keep_10 : decode cX3_keep 10 = .ok (.getfield 9, 3) := by decide +kernel
theorem dX3_keep_13 : decode cX3_keep 13 = .ok (.aload_n 0, 1) := by decide +kernel
theorem dX3_keep_14 : decode cX3_keep 14 = .ok (.getfield 25, 3) := by decide +kernel
theorem dX3_keep_17 : decode cX3_keep 17 = .ok (.iload_n 1, 1) := by decide +kernel
theorem dX3_keep_18 : decode cX3_keep 18 = .ok (.iastore, 1) := by decide +kernel
theorem dX3_keep_19 : decode cX3_keep 19 = .ok (.aload_n 0, 1) := by decide +kernel
theorem dX3_keep_20 : decode cX3_keep 20 = .ok (.getfield 15, 3) := by decide +kernel
theorem dX3_keep_23 : decode cX3_keep 23 = .ok (.aload_n 0, 1) := by decide +kernel
theorem dX3_keep_24 : decode cX3_keep 24 = .ok (.getfield 25, 3) := by decide +kernel
theorem dX3_keep_27 : decode cX3_keep 27 = .ok (.iload_n 2, 1) := by decide +kernel
theorem dX3_keep_28 : decode cX3_keep 28 = .ok (.iastore, 1) := by decide +kernel
theorem dX3_keep_29 : decode cX3_keep 29 = .ok (.aload_n 0, 1) := by decide +kernel
theorem dX3_keep_30 : decode cX3_keep 30 = .ok (.getfield 18, 3) := by decide +kernel
theorem dX3_keep_33 : decode cX3_keep 33 = .ok (.aload_n 0, 1) := by decide +kernel
theorem dX3_keep_34 : decode cX3_keep 34 = .ok (.getfield 25, 3) := by decide +kernel
theorem dX3_keep_37 : decode cX3_keep 37 = .ok (.iload_n 3, 1) := by decide +kernel
theorem dX3_keep_38 : decode cX3_keep 38 = .ok (.iastore, 1) := by decide +kernel
theorem dX3_keep_39 : decode cX3_keep 39 = .ok (.aload_n 0, 1) := by decide +kernel
theorem dX3_keep_40 : decode cX3_keep 40 = .ok (.dup, 1) := by decide +kernel
theorem dX3_keep_41 : decode cX3_keep 41 = .ok (.getfield 25, 3) := by decide +kernel
theorem dX3_keep_44 : decode cX3_keep 44 = .ok (.iconst 1, 1) := by decide +kernel
theorem dX3_keep_45 : decode cX3_keep 45 = .ok (.iadd, 1) := by decide +kernel
theorem dX3_keep_46 : decode cX3_keep 46 = .ok (.putfield 25, 3) := by decide +kernel
theorem dX3_keep_49 : decode cX3_keep 49 = .ok (.iload_n 1, 1) := by decide +kernel
theorem dX3_keep_50 : decode cX3_keep 50 = .ok (.ifCond .ne 13, 3) := by decide +kernel
theorem dX3_keep_53 : decode cX3_keep 53 = .ok (.aload_n 0, 1) := by decide +kernel
theorem dX3_keep_54 : decode cX3_keep 54 = .ok (.dup, 1) := by decide +kernel
theorem dX3_keep_55 : decode cX3_keep 55 = .ok (.getfield 35, 3) := by decide +kernel
theorem dX3_keep_58 : decode cX3_keep 58 = .ok (.iconst 1, 1) := by decide +kernel
theorem dX3_keep_59 : decode cX3_keep 59 = .ok (.iadd, 1) := by decide +kernel
theorem dX3_keep_60 : decode cX3_keep 60 = .ok (.putfield 35, 3) := by decide +kernel
theorem dX3_keep_63 : decode cX3_keep 63 = .ok (.return_, 1) := by decide +kernel
set_option maxRecDepth 20000 in
theorem ggX3_skipBlanks_X5_byteAt : GoodIn wsX3_skipBlanks wsX5_byteAt := goodIn_r _ [8, 9, 10, 19, 20] (by decide +kernel) (by decide +kernel)
set_option maxRecDepth 20000 in
theorem gX3_skipBlanks_X5_byteAt : GoodIn wsX3_skipBlanks (wsV RX3 83 RX5 yX5_byteAt wsX5_byteAt) := goodIn_app (goodIn_of _ (by decide +kernel)) ggX3_skipBlanks_X5_byteAt
theorem dX3_skipBlanks_0 : decode cX3_skipBlanks 0 = .ok (.aload_n 0, 1) := by decide +kernel
theorem dX3_skipBlanks_1 : decode cX3_skipBlanks 1 = .ok (.getfield 29, 3) := by decide +kernel
theorem dX3_skipBlanks_4 : decode cX3_skipBlanks 4 = .ok (.aload_n 0, 1) := by decide +kernel
theorem dX3_skipBlanks_5 : decode cX3_skipBlanks 5 = .ok (.getfield 21, 3) := by decide +kernel
theorem dX3_skipBlanks_8 : decode cX3_skipBlanks 8 = .ok (.getfield 38, 3) := by decide +kernel
theorem dX3_skipBlanks_11 : decode cX3_skipBlanks 11 = .ok (.if_icmp .ge 32, 3) := by decide +kernel
theorem dX3_skipBlanks_14 : decode cX3_skipBlanks 14 = .ok (.aload_n 0, 1) := by decide +kernel
theorem dX3_skipBlanks_15 : decode cX3_skipBlanks 15 = .ok (.getfield 21, 3) := by decide +kernel
theorem dX3_skipBlanks_18 : decode cX3_skipBlanks 18 = .ok (.aload_n 0, 1) := by decide +kernel
theorem dX3_skipBlanks_19 : decode cX3_skipBlanks 19 = .ok (.getfield 29, 3) := by decide +kernel
theorem dX3_skipBlanks_22 : decode cX3_skipBlanks 22 = .ok (.invokevirtual 83, 3) := by decide +kernel
theorem dX3_skipBlanks_25 : decode cX3_skipBlanks 25 = .ok (.bipush 32, 2) := by decide +kernel
theorem dX3_skipBlanks_27 : decode cX3_skipBlanks 27 = .ok (.if_icmp .ne 16, 3) := by decide +kernel
theorem dX3_skipBlanks_30 : decode cX3_skipBlanks 30 = .ok (.aload_n 0, 1) := by decide +kernel
theorem dX3_skipBlanks_31 : decode cX3_skipBlanks 31 = .ok (.dup, 1) := by decide +kernel
theorem dX3_skipBlanks_32 : decode cX3_skipBlanks 32 = .ok (.getfield 29, 3) := by decide +kernel
theorem dX3_skipBlanks_35 : decode cX3_skipBlanks 35 = .ok (.iconst 1, 1) := by decide +kernel
theorem dX3_skipBlanks_36 : decode cX3_skipBlanks 36 = .ok (.iadd, 1) := by decide +kernel
theorem dX3_skipBlanks_37 : decode cX3_skipBlanks 37 = .ok (.putfield 29, 3) := by decide +kernel
theorem dX3_skipBlanks_40 : decode cX3_skipBlanks 40 = .ok (.goto (-40), 3) := by decide +kernel
theorem dX3_skipBlanks_43 : decode cX3_skipBlanks 43 = .ok (.return_, 1) := by decide +kernel
