theorem dX4_init_8 : decode cX4_init 8 = .ok (.newarray .int, 2) := by decide +kernel
theorem dX4_init_10 : decode cX4_init 10 = .ok (.putfield 7, 3) := by decide +kernel
theorem dX4_init_13 : decode cX4_init 13 = .ok (.aload_n 0, 1) := by decide +kernel
theorem dX4_init_14 : decode cX4_init 14 = .ok (.bipush 8, 2) := by decide +kernel
theorem dX4_init_16 : decode cX4_init 16 = .ok (.newarray .boolean, 2) := by decide +kernel
theorem dX4_init_18 : decode cX4_init 18 = .ok (.putfield 13, 3) := by decide +kernel
theorem dX4_init_21 : decode cX4_init 21 = .ok (.aload_n 0, 1) := by decide +kernel
theorem dX4_init_22 : decode cX4_init 22 = .ok (.bipush 8, 2) := by decide +kernel
theorem dX4_init_24 : decode cX4_init 24 = .ok (.newarray .boolean, 2) := by decide +kernel
theorem dX4_init_26 : decode cX4_init 26 = .ok (.putfield 17, 3) := by decide +kernel
theorem dX4_init_29 : decode cX4_init 29 = .ok (.aload_n 0, 1) := by decide +kernel
theorem dX4_init_30 : decode cX4_init 30 = .ok (.bipush 8, 2) := by decide +kernel
theorem dX4_init_32 : decode cX4_init 32 = .ok (.newarray .int, 2) := by decide +kernel
theorem dX4_init_34 : decode cX4_init 34 = .ok (.putfield 20, 3) := by decide +kernel
theorem dX4_init_37 : decode cX4_init 37 = .ok (.aload_n 0, 1) := by decide +kernel
theorem dX4_init_38 : decode cX4_init 38 = .ok (.bipush 24, 2) := by decide +kernel
theorem dX4_init_40 : decode cX4_init 40 = .ok (.newarray .int, 2) := by decide +kernel
theorem dX4_init_42 : decode cX4_init 42 = .ok (.putfield 23, 3) := by decide +kernel
theorem dX4_init_45 : decode cX4_init 45 = .ok (.aload_n 0, 1) := by decide +kernel
theorem dX4_init_46 : decode cX4_init 46 = .ok (.bipush 8, 2) := by decide +kernel
theorem dX4_init_48 : decode cX4_init 48 = .ok (.newarray .int, 2) := by decide +kernel
theorem dX4_init_50 : decode cX4_init 50 = .ok (.putfield 26, 3) := by decide +kernel
theorem dX4_init_53 : decode cX4_init 53 = .ok (.aload_n 0, 1) := by decide +kernel
theorem dX4_init_54 : decode cX4_init 54 = .ok (.sipush 1402, 3) := by decide +kernel
theorem dX4_init_57 : decode cX4_init 57 = .ok (.newarray .int, 2) := by decide +kernel
theorem dX4_init_59 : decode cX4_init 59 = .ok (.putfield 29, 3) := by decide +kernel
theorem dX4_init_62 : decode cX4_init 62 = .ok (.aload_n 0, 1) := by decide +kernel
theorem dX4_init_63 : decode cX4_init 63 = .ok (.sipush 1402, 3) := by decide +kernel
theorem dX4_init_66 : decode cX4_init 66 = .ok (.newarray .int, 2) := by decide +kernel
theorem dX4_init_68 : decode cX4_init 68 = .ok (.putfield 32, 3) := by decide +kernel
theorem dX4_init_71 : decode cX4_init 71 = .ok (.aload_n 0, 1) := by decide +kernel
theorem dX4_init_72 : decode cX4_init 72 = .ok (.iconst 0, 1) := by decide +kernel
theorem dX4_init_73 : decode cX4_init 73 = .ok (.putfield 35, 3) := by decide +kernel
theorem dX4_init_76 : decode cX4_init 76 = .ok (.return_, 1) := by decide +kernel
theorem dX4_orderOf_0 : decode cX4_orderOf 0 = .ok (.iload_n 0, 1) := by decide +kernel
theorem dX4_orderOf_1 : decode cX4_orderOf 1 = .ok (.iconst 2, 1) := by decide +kernel
theorem dX4_orderOf_2 : decode cX4_orderOf 2 = .ok (.if_icmp .eq 9, 3) := by decide +kernel
theorem dX4_orderOf_5 : decode cX4_orderOf 5 = .ok (.iload_n 0, 1) := by decide +kernel
theorem dX4_orderOf_6 : decode cX4_orderOf 6 = .ok (.bipush 6, 2) := by decide +kernel
theorem dX4_orderOf_8 : decode cX4_orderOf 8 = .ok (.if_icmp .ne 7, 3) := by decide +kernel
theorem dX4_orderOf_11 : decode cX4_orderOf 11 = .ok (.iconst 1, 1) := by decide +kernel
theorem dX4_orderOf_12 : decode cX4_orderOf 12 = .ok (.goto 18, 3) := by decide +kernel
theorem dX4_orderOf_15 : decode cX4_orderOf 15 = .ok (.iload_n 0, 1) := by decide +kernel
theorem dX4_orderOf_16 : decode cX4_orderOf 16 = .ok (.iconst 4, 1) := by decide +kernel
theorem dX4_orderOf_17 : decode cX4_orderOf 17 = .ok (.if_icmp .eq 8, 3) := by decide +kernel
theorem dX4_orderOf_20 : decode cX4_orderOf 20 = .ok (.iload_n 0, 1) := by decide +kernel
theorem dX4_orderOf_21 : decode cX4_orderOf 21 = .ok (.iconst 5, 1) := by decide +kernel
theorem dX4_orderOf_22 : decode cX4_orderOf 22 = .ok (.if_icmp .ne 7, 3) := by decide +kernel
theorem dX4_orderOf_25 : decode cX4_orderOf 25 = .ok (.iconst 2, 1) := by decide +kernel
theorem dX4_orderOf_26 : decode cX4_orderOf 26 = .ok (.goto 4, 3) := by decide +kernel
theorem dX4_orderOf_29 : decode cX4_orderOf 29 = .ok (.iconst 0, 1) := by decide +kernel
theorem dX4_orderOf_30 : decode cX4_orderOf 30 = .ok (.ireturn, 1) := by decide +kernel
theorem dX4_partOf_0 : decode cX4_partOf 0 = .ok (.iload_n 0, 1) := by decide +kernel
theorem dX4_partOf_1 : decode cX4_partOf 1 = .ok (.iload_n 1, 1) := by decide +kernel
theorem dX4_partOf_2 : decode cX4_partOf 2 = .ok (.iadd, 1) := by decide +kernel
theorem dX4_partOf_3 : decode cX4_partOf 3 = .ok (.iconst 3, 1) := by decide +kernel
theorem dX4_partOf_4 : decode cX4_partOf 4 = .ok (.irem, 1) := by decide +kernel
theorem dX4_partOf_5 : decode cX4_partOf 5 = .ok (.ireturn, 1) := by decide +kernel
theorem dX4_cell_0 : decode cX4_cell 0 = .ok (.aload_n 0, 1) := by decide +kernel
theorem dX4_cell_1 : decode cX4_cell 1 = .ok (.getfield 7, 3) := by decide +kernel
theorem dX4_cell_4 : decode cX4_cell 4 = .ok (.sipush 2101, 3) := by decide +kernel
theorem dX4_cell_7 : decode cX4_cell 7 = .ok (.iload_n 1, 1) := by decide +kernel
theorem dX4_cell_8 : decode cX4_cell 8 = .ok (.imul, 1) := by decide +kernel
theorem dX4_cell_9 : decode cX4_cell 9 = .ok (.iconst 3, 1) := by decide +kernel
theorem dX4_cell_10 : decode cX4_cell 10 = .ok (.iload_n 2, 1) := by decide +kernel
theorem dX4_cell_11 : decode cX4_cell 11 = .ok (.imul, 1) := by decide +kernel
theorem dX4_cell_12 : decode cX4_cell 12 = .ok (.iadd, 1) := by decide +kernel
theorem dX4_cell_13 : decode cX4_cell 13 = .ok (.iload_n 3, 1) := by decide +kernel
theorem dX4_cell_14 : decode cX4_cell 14 = .ok (.iadd, 1) := by decide +kernel
theorem dX4_cell_15 : decode cX4_cell 15 = .ok (.iaload, 1) := by decide +kernel
theorem dX4_cell_16 : decode cX4_cell 16 = .ok (.ireturn, 1) := by decide +kernel
set_option maxRecDepth 20000 in
theorem ggX4_compare_X4_partOf : GoodIn wsX4_compare wsX4_partOf := goodIn_r _ [4] (by decide +kernel) (by decide +kernel)
set_option maxRecDepth 20000 in
theorem gX4_compare_X4_partOf : GoodIn wsX4_compare (va_wsS RX4 39 yX4_partOf wsX4_partOf) := goodIn_app (goodIn_of _ (by decide +kernel)) ggX4_compare_X4_partOf
set_option maxRecDepth 20000 in
theorem ggX4_compare_X4_cell : GoodIn wsX4_compare wsX4_cell := goodIn_r _ [8, 9, 10, 11, 12, 13, 14, 15, 16, 17, 18, 19, 20] (by decide +kernel) (by decide +kernel)
set_option maxRecDepth 20000 in
theorem gX4_compare_X4_cell : GoodIn wsX4_compare (wsV RX4 43 RX4 yX4_cell wsX4_cell) := goodIn_app (goodIn_of _ (by decide +kernel)) ggX4_compare_X4_cell
theorem dX4_compare_0 : decode cX4_compare 0 = .ok (.iconst 0, 1) := by decide +kernel
theorem dX4_compare_1 : decode cX4_compare 1 = .ok (.istore 6, 2) := by decide +kernel
theorem dX4_compare_3 : decode cX4_compare 3 = .ok (.iload 6, 2) := by decide +kernel
theorem dX4_compare_5 : decode cX4_compare 5 = .ok (.iconst 3, 1) := by decide +kernel
theorem dX4_compare_6 : decode cX4_compare 6 = .ok (.if_icmp .ge 71, 3) := by decide +kernel
theorem dX4_compare_9 : decode cX4_compare 9 = .ok (.iload_n 1, 1) := by decide +kernel
theorem dX4_compare_10 : decode cX4_compare 10 = .ok (.iload 6, 2) := by decide +kernel
theorem dX4_compare_12 : decode cX4_compare 12 = .ok (.invokestatic 39, 3) := by decide +kernel
theorem dX4_compare_15 : decode cX4_compare 15 = .ok (.istore 7, 2) := by decide +kernel
theorem dX4_compare_17 : decode cX4_compare 17 = .ok (.aload_n 0, 1) := by decide +kernel
theorem dX4_compare_18 : decode cX4_compare 18 = .ok (.iload_n 1, 1) := by decide +kernel
theorem dX4_compare_19 : decode cX4_compare 19 = .ok (.iload_n 2, 1) := by decide +kernel
theorem dX4_compare_20 : decode cX4_compare 20 = .ok (.iload 7, 2) := by decide +kernel
theorem dX4_compare_22 : decode cX4_compare 22 = .ok (.invokevirtual 43, 3) := by decide +kernel
theorem dX4_compare_25 : decode cX4_compare 25 = .ok (.istore 8, 2) := by decide +kernel
theorem dX4_compare_27 : decode cX4_compare 27 = .ok (.iload 7, 2) := by decide +kernel
theorem dX4_compare_29 : decode cX4_compare 29 = .ok (.ifCond .ne 7, 3) := by decide +kernel
theorem dX4_compare_32 : decode cX4_compare 32 = .ok (.iload_n 3, 1) := by decide +kernel
theorem dX4_compare_33 : decode cX4_compare 33 = .ok (.goto 16, 3) := by decide +kernel
theorem dX4_compare_36 : decode cX4_compare 36 = .ok (.iload 7, 2) := by decide +kernel
theorem dX4_compare_38 : decode cX4_compare 38 = .ok (.iconst 1, 1) := by decide +kernel
theorem dX4_compare_39 : decode cX4_compare 39 = .ok (.if_icmp .ne 8, 3) := by decide +kernel
theorem dX4_compare_42 : decode cX4_compare 42 = .ok (.iload 4, 2) := by decide +kernel
theorem dX4_compare_44 : decode cX4_compare 44 = .ok (.goto 5, 3) := by decide +kernel
theorem dX4_compare_47 : decode cX4_compare 47 = .ok (.iload 5, 2) := by decide +kernel
theorem dX4_compare_49 : decode cX4_compare 49 = .ok (.istore 9, 2) := by decide +kernel
theorem dX4_compare_51 : decode cX4_compare 51 = .ok (.iload 8, 2) := by decide +kernel
theorem dX4_compare_53 : decode cX4_compare 53 = .ok (.iload 9, 2) := by decide +kernel
theorem dX4_compare_55 : decode cX4_compare 55 = .ok (.if_icmp .eq 16, 3) := by decide +kernel
theorem dX4_compare_58 : decode cX4_compare 58 = .ok (.iload 8, 2) := by decide +kernel
theorem dX4_compare_60 : decode cX4_compare 60 = .ok (.iload 9, 2) := by decide +kernel
theorem dX4_compare_62 : decode cX4_compare 62 = .ok (.if_icmp .ge 7, 3) := by decide +kernel
theorem dX4_compare_65 : decode cX4_compare 65 = .ok (.iconst (-1), 1) := by decide +kernel
theorem dX4_compare_66 : decode cX4_compare 66 = .ok (.goto 4, 3) := by decide +kernel
theorem dX4_compare_69 : decode cX4_compare 69 = .ok (.iconst 1, 1) := by decide +kernel
theorem dX4_compare_70 : decode cX4_compare 70 = .ok (.ireturn, 1) := by decide +kernel
theorem dX4_compare_71 : decode cX4_compare 71 = .ok (.iinc 6 1, 3) := by decide +kernel
theorem dX4_compare_74 : decode cX4_compare 74 = .ok (.goto (-71), 3) := by decide +kernel
theorem dX4_compare_77 : decode cX4_compare 77 = .ok (.iconst 0, 1) := by decide +kernel
theorem dX4_compare_78 : decode cX4_compare 78 = .ok (.ireturn, 1) := by decide +kernel
set_option maxRecDepth 20000 in
theorem ggX4_placeOf_X4_compare : GoodIn wsX4_placeOf wsX4_compare := goodIn_r _ [6, 7, 8, 5, 9, 10, 11, 12, 13, 14, 15, 16, 17, 18, 19, 20, 21, 22, 23, 24, 25] (by decide +kernel) (by decide +kernel)
set_option maxRecDepth 20000 in
theorem gX4_placeOf_X4_compare : GoodIn wsX4_placeOf (wsV RX4 47 RX4 yX4_compare wsX4_compare) := goodIn_app (goodIn_of _ (by decide +kernel)) ggX4_placeOf_X4_compare
theorem dX4_placeOf_0 : decode cX4_placeOf 0 = .ok (.iconst 0, 1) := by decide +kernel
theorem dX4_placeOf_1 : decode cX4_placeOf 1 = .ok (.istore 5, 2) := by decide +kernel
theorem dX4_placeOf_3 : decode cX4_placeOf 3 = .ok (.iload 5, 2) := by decide +kernel
theorem dX4_placeOf_5 : decode cX4_placeOf 5 = .ok (.aload_n 0, 1) := by decide +kernel
theorem dX4_placeOf_6 : decode cX4_placeOf 6 = .ok (.getfield 35, 3) := by decide +kernel
theorem dX4_placeOf_9 : decode cX4_placeOf 9 = .ok (.if_icmp .ge 23, 3) := by decide +kernel
theorem dX4_placeOf_12 : decode cX4_placeOf 12 = .ok (.aload_n 0, 1) := by decide +kernel
theorem dX4_placeOf_13 : decode cX4_placeOf 13 = .ok (.iload_n 1, 1) := by decide +kernel
theorem dX4_placeOf_14 : decode cX4_placeOf 14 = .ok (.iload 5, 2) := by decide +kernel
theorem dX4_placeOf_16 : decode cX4_placeOf 16 = .ok (.iload_n 2, 1) := by decide +kernel
theorem dX4_placeOf_17 : decode cX4_placeOf 17 = .ok (.iload_n 3, 1) := by decide +kernel
theorem dX4_placeOf_18 : decode cX4_placeOf 18 = .ok (.iload 4, 2) := by decide +kernel
theorem dX4_placeOf_20 : decode cX4_placeOf 20 = .ok (.invokevirtual 47, 3) := by decide +kernel
theorem dX4_placeOf_23 : decode cX4_placeOf 23 = .ok (.ifCond .ge 9, 3) := by decide +kernel
theorem dX4_placeOf_26 : decode cX4_placeOf 26 = .ok (.iinc 5 1, 3) := by decide +kernel
theorem dX4_placeOf_29 : decode cX4_placeOf 29 = .ok (.goto (-26), 3) := by decide +kernel
theorem dX4_placeOf_32 : decode cX4_placeOf 32 = .ok (.iload 5, 2) := by decide +kernel
theorem dX4_placeOf_34 : decode cX4_placeOf 34 = .ok (.ireturn, 1) := by decide +kernel
set_option maxRecDepth 20000 in
theorem ggX4_holds_X4_placeOf : GoodIn wsX4_holds wsX4_placeOf := goodIn_r _ [6, 1, 7, 8, 9, 5, 10, 11, 12, 13, 14, 15, 16, 17, 18, 19, 20, 21, 22, 23, 24, 25, 26, 27, 28, 29] (by decide +kernel) (by decide +kernel)
set_option maxRecDepth 20000 in
theorem gX4_holds_X4_placeOf : GoodIn wsX4_holds (wsV RX4 51 RX4 yX4_placeOf wsX4_placeOf) := goodIn_app (goodIn_of _ (by decide +kernel)) ggX4_holds_X4_placeOf
set_option maxRecDepth 20000 in
theorem ggX4_holds_X4_compare : GoodIn wsX4_holds wsX4_compare := goodIn_r _ [10, 11, 12, 5, 13, 14, 15, 16, 17, 18, 19, 20, 21, 22, 23, 24, 25, 26, 27, 28, 29] (by decide +kernel) (by decide +kernel)
set_option maxRecDepth 20000 in
theorem gX4_holds_X4_compare : GoodIn wsX4_holds (wsV RX4 47 RX4 yX4_compare wsX4_compare) := goodIn_app (goodIn_of _ (by decide +kernel)) ggX4_holds_X4_compare
theorem dX4_holds_0 : decode cX4_holds 0 = .ok (.aload_n 0, 1) := by decide +kernel
theorem dX4_holds_1 : decode cX4_holds 1 = .ok (.iconst 0, 1) := by decide +kernel
theorem dX4_holds_2 : decode cX4_holds 2 = .ok (.iload_n 1, 1) := by decide +kernel
theorem dX4_holds_3 : decode cX4_holds 3 = .ok (.iload_n 2, 1) := by decide +kernel
theorem dX4_holds_4 : decode cX4_holds 4 = .ok (.iload_n 3, 1) := by decide +kernel
theorem dX4_holds_5 : decode cX4_holds 5 = .ok (.invokevirtual 51, 3) := by decide +kernel
theorem dX4_holds_8 : decode cX4_holds 8 = .ok (.istore 4, 2) := by decide +kernel
theorem dX4_holds_10 : decode cX4_holds 10 = .ok (.iload 4, 2) := by decide +kernel
theorem dX4_holds_12 : decode cX4_holds 12 = .ok (.aload_n 0, 1) := by decide +kernel
theorem dX4_holds_13 : decode cX4_holds 13 = .ok (.getfield 35, 3) := by decide +kernel
theorem dX4_holds_16 : decode cX4_holds 16 = .ok (.if_icmp .ge 20, 3) := by decide +kernel
theorem dX4_holds_19 : decode cX4_holds 19 = .ok (.aload_n 0, 1) := by decide +kernel
theorem dX4_holds_20 : decode cX4_holds 20 = .ok (.iconst 0, 1) := by decide +kernel
theorem dX4_holds_21 : decode cX4_holds 21 = .ok (.iload 4, 2) := by decide +kernel
theorem dX4_holds_23 : decode cX4_holds 23 = .ok (.iload_n 1, 1) := by decide +kernel
theorem dX4_holds_24 : decode cX4_holds 24 = .ok (.iload_n 2, 1) := by decide +kernel
theorem dX4_holds_25 : decode cX4_holds 25 = .ok (.iload_n 3, 1) := by decide +kernel
theorem dX4_holds_26 : decode cX4_holds 26 = .ok (.invokevirtual 47, 3) := by decide +kernel
theorem dX4_holds_29 : decode cX4_holds 29 = .ok (.ifCond .ne 7, 3) := by decide +kernel
theorem dX4_holds_32 : decode cX4_holds 32 = .ok (.iconst 1, 1) := by decide +kernel
theorem dX4_holds_33 : decode cX4_holds 33 = .ok (.goto 4, 3) := by decide +kernel
theorem dX4_holds_36 : decode cX4_holds 36 = .ok (.iconst 0, 1) := by decide +kernel
theorem dX4_holds_37 : decode cX4_holds 37 = .ok (.ireturn, 1) := by decide +kernel
theorem dX4_changed_0 : decode cX4_changed 0 = .ok (.aload_n 0, 1) := by decide +kernel
theorem dX4_changed_1 : decode cX4_changed 1 = .ok (.dup, 1) := by decide +kernel
theorem dX4_changed_2 : decode cX4_changed 2 = .ok (.getfield 55, 3) := by decide +kernel
theorem dX4_changed_5 : decode cX4_changed 5 = .ok (.iconst 1, 1) := by decide +kernel
theorem dX4_changed_6 : decode cX4_changed 6 = .ok (.iadd, 1) := by decide +kernel
theorem dX4_changed_7 : decode cX4_changed 7 = .ok (.putfield 55, 3) := by decide +kernel
theorem dX4_changed_10 : decode cX4_changed 10 = .ok (.iconst 0, 1) := by decide +kernel
theorem dX4_changed_11 : decode cX4_changed 11 = .ok (.istore_n 1, 1) := by decide +kernel
theorem dX4_changed_12 : decode cX4_changed 12 = .ok (.iload_n 1, 1) := by decide +kernel
theorem dX4_changed_13 : decode cX4_changed 13 = .ok (.bipush 8, 2) := by decide +kernel
theorem dX4_changed_15 : decode cX4_changed 15 = .ok (.if_icmp .ge 21, 3) := by decide +kernel
theorem dX4_changed_18 : decode cX4_changed 18 = .ok (.aload_n 0, 1) := by decide +kernel
theorem dX4_changed_19 : decode cX4_changed 19 = .ok (.getfield 17, 3) := by decide +kernel
theorem dX4_changed_22 : decode cX4_changed 22 = .ok (.iload_n 1, 1) := by decide +kernel
theorem dX4_changed_23 : decode cX4_changed 23 = .ok (.aload_n 0, 1) := by decide +kernel
theorem dX4_changed_24 : decode cX4_changed 24 = .ok (.getfield 13, 3) := by decide +kernel
theorem dX4_changed_27 : decode cX4_changed 27 = .ok (.iload_n 1, 1) := by decide +kernel
theorem dX4_changed_28 : decode cX4_changed 28 = .ok (.baload, 1) := by decide +kernel
theorem dX4_changed_29 : decode cX4_changed 29 = .ok (.bastore, 1) := by decide +kernel
theorem dX4_changed_30 : decode cX4_changed 30 = .ok (.iinc 1 1, 3) := by decide +kernel
theorem dX4_changed_33 : decode cX4_changed 33 = .ok (.goto (-21), 3) := by decide +kernel
theorem dX4_changed_36 : decode cX4_changed 36 = .ok (.return_, 1) := by decide +kernel
set_option maxRecDepth 20000 in
theorem ggX4_add_X4_holds : GoodIn wsX4_add wsX4_holds := goodIn_r _ [7, 1, 8, 9, 10, 6, 11, 12, 13, 14, 15, 16, 17, 18, 19, 20, 21, 22, 2, 30, 31, 32, 33, 34, 35, 36, 37, 38, 39, 40] (by decide +kernel) (by decide +kernel)
set_option maxRecDepth 20000 in
theorem gX4_add_X4_holds : GoodIn wsX4_add (wsV RX4 58 RX4 yX4_holds wsX4_holds) := goodIn_app (goodIn_of _ (by decide +kernel)) ggX4_add_X4_holds
set_option maxRecDepth 20000 in
theorem ggX4_add_X4_placeOf : GoodIn wsX4_add wsX4_placeOf := goodIn_r _ [11, 1, 12, 13, 14, 6, 15, 16, 17, 18, 19, 20, 21, 22, 2, 30, 31, 32, 33, 34, 35, 36, 37, 38, 39, 40] (by decide +kernel) (by decide +kernel)
set_option maxRecDepth 20000 in
theorem gX4_add_X4_placeOf : GoodIn wsX4_add (wsV RX4 51 RX4 yX4_placeOf wsX4_placeOf) := goodIn_app (goodIn_of _ (by decide +kernel)) ggX4_add_X4_placeOf
set_option maxRecDepth 20000 in
theorem ggX4_add_X4_changed : GoodIn wsX4_add wsX4_changed := goodIn_r _ [26, 27, 28, 29, 30, 31, 32, 33, 34, 35, 36, 37, 38, 39, 40] (by decide +kernel) (by decide +kernel)
set_option maxRecDepth 20000 in
theorem gX4_add_X4_changed : GoodIn wsX4_add (wsV RX4 62 RX4 yX4_changed wsX4_changed) := goodIn_app (goodIn_of _ (by decide +kernel)) ggX4_add_X4_changed
theorem dX4_add_0 : decode cX4_add 0 = .ok (.aload_n 0, 1) := by decide +kernel
theorem dX4_add_1 : decode cX4_add 1 = .ok (.iload_n 1, 1) := by decide +kernel
theorem dX4_add_2 : decode cX4_add 2 = .ok (.iload_n 2, 1) := by decide +kernel
theorem dX4_add_3 : decode cX4_add 3 = .ok (.iload_n 3, 1) := by decide +kernel
theorem dX4_add_4 : decode cX4_add 4 = .ok (.invokevirtual 58, 3) := by decide +kernel
theorem dX4_add_7 : decode cX4_add 7 = .ok (.ifCond .eq 5, 3) := by decide +kernel
theorem dX4_add_10 : decode cX4_add 10 = .ok (.iconst 0, 1) := by decide +kernel
theorem dX4_add_11 : decode cX4_add 11 = .ok (.ireturn, 1) := by decide +kernel
theorem dX4_add_12 : decode cX4_add 12 = .ok (.aload_n 0, 1) := by decide +kernel
theorem dX4_add_13 : decode cX4_add 13 = .ok (.getfield 35, 3) := by decide +kernel
theorem dX4_add_16 : decode cX4_add 16 = .ok (.sipush 700, 3) := by decide +kernel
theorem dX4_add_19 : decode cX4_add 19 = .ok (.if_icmp .ne 6, 3) := by decide +kernel
theorem dX4_add_22 : decode cX4_add 22 = .ok (.bipush (-2), 2) := by decide +kernel
theorem dX4_add_24 : decode cX4_add 24 = .ok (.ireturn, 1) := by decide +kernel
theorem dX4_add_25 : decode cX4_add 25 = .ok (.iconst 0, 1) := by decide +kernel
theorem dX4_add_26 : decode cX4_add 26 = .ok (.istore 4, 2) := by decide +kernel
theorem dX4_add_28 : decode cX4_add 28 = .ok (.iload 4, 2) := by decide +kernel
theorem dX4_add_30 : decode cX4_add 30 = .ok (.iconst 3, 1) := by decide +kernel
theorem dX4_add_31 : decode cX4_add 31 = .ok (.if_icmp .ge 118, 3) := by decide +kernel
theorem dX4_add_34 : decode cX4_add 34 = .ok (.aload_n 0, 1) := by decide +kernel
theorem dX4_add_35 : decode cX4_add 35 = .ok (.iload 4, 2) := by decide +kernel
theorem dX4_add_37 : decode cX4_add 37 = .ok (.iload_n 1, 1) := by decide +kernel
theorem dX4_add_38 : decode cX4_add 38 = .ok (.iload_n 2, 1) := by decide +kernel
theorem dX4_add_39 : decode cX4_add 39 = .ok (.iload_n 3, 1) := by decide +kernel
theorem dX4_add_40 : decode cX4_add 40 = .ok (.invokevirtual 51, 3) := by decide +kernel
theorem dX4_add_43 : decode cX4_add 43 = .ok (.istore 5, 2) := by decide +kernel
theorem dX4_add_45 : decode cX4_add 45 = .ok (.sipush 2101, 3) := by decide +kernel
theorem dX4_add_48 : decode cX4_add 48 = .ok (.iload 4, 2) := by decide +kernel
theorem dX4_add_50 : decode cX4_add 50 = .ok (.imul, 1) := by decide +kernel
theorem dX4_add_51 : decode cX4_add 51 = .ok (.istore 6, 2) := by decide +kernel
theorem dX4_add_53 : decode cX4_add 53 = .ok (.iconst 3, 1) := by decide +kernel
theorem dX4_add_54 : decode cX4_add 54 = .ok (.aload_n 0, 1) := by decide +kernel
theorem dX4_add_55 : decode cX4_add 55 = .ok (.getfield 35, 3) := by decide +kernel
theorem dX4_add_58 : decode cX4_add 58 = .ok (.imul, 1) := by decide +kernel
theorem dX4_add_59 : decode cX4_add 59 = .ok (.iconst 1, 1) := by decide +kernel
theorem dX4_add_60 : decode cX4_add 60 = .ok (.isub, 1) := by decide +kernel
theorem dX4_add_61 : decode cX4_add 61 = .ok (.istore 7, 2) := by decide +kernel
theorem dX4_add_63 : decode cX4_add 63 = .ok (.iload 7, 2) := by decide +kernel
theorem dX4_add_65 : decode cX4_add 65 = .ok (.iconst 3, 1) := by decide +kernel
theorem dX4_add_66 : decode cX4_add 66 = .ok (.iload 5, 2) := by decide +kernel
theorem dX4_add_68 : decode cX4_add 68 = .ok (.imul, 1) := by decide +kernel
theorem dX4_add_69 : decode cX4_add 69 = .ok (.if_icmp .lt 31, 3) := by decide +kernel
theorem dX4_add_72 : decode cX4_add 72 = .ok (.aload_n 0, 1) := by decide +kernel
theorem dX4_add_73 : decode cX4_add 73 = .ok (.getfield 7, 3) := by decide +kernel
theorem dX4_add_76 : decode cX4_add 76 = .ok (.iload 6, 2) := by decide +kernel
theorem dX4_add_78 : decode cX4_add 78 = .ok (.iload 7, 2) := by decide +kernel
theorem dX4_add_80 : decode cX4_add 80 = .ok (.iadd, 1) := by decide +kernel
theorem dX4_add_81 : decode cX4_add 81 = .ok (.iconst 3, 1) := by decide +kernel
theorem dX4_add_82 : decode cX4_add 82 = .ok (.iadd, 1) := by decide +kernel
theorem dX4_add_83 : decode cX4_add 83 = .ok (.aload_n 0, 1) := by decide +kernel
theorem dX4_add_84 : decode cX4_add 84 = .ok (.getfield 7, 3) := by decide +kernel
theorem dX4_add_87 : decode cX4_add 87 = .ok (.iload 6, 2) := by decide +kernel
theorem dX4_add_89 : decode cX4_add 89 = .ok (.iload 7, 2) := by decide +kernel
theorem dX4_add_91 : decode cX4_add 91 = .ok (.iadd, 1) := by decide +kernel
theorem dX4_add_92 : decode cX4_add 92 = .ok (.iaload, 1) := by decide +kernel
theorem dX4_add_93 : decode cX4_add 93 = .ok (.iastore, 1) := by decide +kernel
theorem dX4_add_94 : decode cX4_add 94 = .ok (.iinc 7 (-1), 3) := by decide +kernel
theorem dX4_add_97 : decode cX4_add 97 = .ok (.goto (-34), 3) := by decide +kernel
theorem dX4_add_100 : decode cX4_add 100 = .ok (.aload_n 0, 1) := by decide +kernel
theorem dX4_add_101 : decode cX4_add 101 = .ok (.getfield 7, 3) := by decide +kernel
theorem dX4_add_104 : decode cX4_add 104 = .ok (.iload 6, 2) := by decide +kernel
theorem dX4_add_106 : decode cX4_add 106 = .ok (.iconst 3, 1) := by decide +kernel
theorem dX4_add_107 : decode cX4_add 107 = .ok (.iload 5, 2) := by decide +kernel
theorem dX4_add_109 : decode cX4_add 109 = .ok (.imul, 1) := by decide +kernel
theorem dX4_add_110 : decode cX4_add 110 = .ok (.iadd, 1) := by decide +kernel
theorem dX4_add_111 : decode cX4_add 111 = .ok (.iload_n 1, 1) := by decide +kernel
theorem dX4_add_112 : decode cX4_add 112 = .ok (.iastore, 1) := by decide +kernel
theorem dX4_add_113 : decode cX4_add 113 = .ok (.aload_n 0, 1) := by decide +kernel
theorem dX4_add_114 : decode cX4_add 114 = .ok (.getfield 7, 3) := by decide +kernel
theorem dX4_add_117 : decode cX4_add 117 = .ok (.iload 6, 2) := by decide +kernel
theorem dX4_add_119 : decode cX4_add 119 = .ok (.iconst 3, 1) := by decide +kernel
theorem dX4_add_120 : decode cX4_add 120 = .ok (.iload 5, 2) := by decide +kernel
theorem dX4_add_122 : decode cX4_add 122 = .ok (.imul, 1) := by decide +kernel
theorem dX4_add_123 : decode cX4_add 123 = .ok (.iadd, 1) := by decide +kernel
theorem dX4_add_124 : decode cX4_add 124 = .ok (.iconst 1, 1) := by decide +kernel
theorem dX4_add_125 : decode cX4_add 125 = .ok (.iadd, 1) := by decide +kernel
theorem dX4_add_126 : decode cX4_add 126 = .ok (.iload_n 2, 1) := by decide +kernel
theorem dX4_add_127 : decode cX4_add 127 = .ok (.iastore, 1) := by decide +kernel
theorem dX4_add_128 : decode cX4_add 128 = .ok (.aload_n 0, 1) := by decide +kernel
theorem dX4_add_129 : decode cX4_add 129 = .ok (.getfield 7, 3) := by decide +kernel
theorem dX4_add_132 : decode cX4_add 132 = .ok (.iload 6, 2) := by decide +kernel
theorem dX4_add_134 : decode cX4_add 134 = .ok (.iconst 3, 1) := by decide +kernel
theorem dX4_add_135 : decode cX4_add 135 = .ok (.iload 5, 2) := by decide +kernel
theorem dX4_add_137 : decode cX4_add 137 = .ok (.imul, 1) := by decide +kernel
theorem dX4_add_138 : decode cX4_add 138 = .ok (.iadd, 1) := by decide +kernel
theorem dX4_add_139 : decode cX4_add 139 = .ok (.iconst 2, 1) := by decide +kernel
theorem dX4_add_140 : decode cX4_add 140 = .ok (.iadd, 1) := by decide +kernel
theorem dX4_add_141 : decode cX4_add 141 = .ok (.iload_n 3, 1) := by decide +kernel
theorem dX4_add_142 : decode cX4_add 142 = .ok (.iastore, 1) := by decide +kernel
theorem dX4_add_143 : decode cX4_add 143 = .ok (.iinc 4 1, 3) := by decide +kernel
theorem dX4_add_146 : decode cX4_add 146 = .ok (.goto (-118), 3) := by decide +kernel
theorem dX4_add_149 : decode cX4_add 149 = .ok (.aload_n 0, 1) := by decide +kernel
theorem dX4_add_150 : decode cX4_add 150 = .ok (.dup, 1) := by decide +kernel
theorem dX4_add_151 : decode cX4_add 151 = .ok (.getfield 35, 3) := by decide +kernel
theorem dX4_add_154 : decode cX4_add 154 = .ok (.iconst 1, 1) := by decide +kernel
theorem dX4_add_155 : decode cX4_add 155 = .ok (.iadd, 1) := by decide +kernel
theorem dX4_add_156 : decode cX4_add 156 = .ok (.putfield 35, 3) := by decide +kernel
theorem dX4_add_159 : decode cX4_add 159 = .ok (.aload_n 0, 1) := by decide +kernel
theorem dX4_add_160 : decode cX4_add 160 = .ok (.invokevirtual 62, 3) := by decide +kernel
theorem dX4_add_163 : decode cX4_add 163 = .ok (.iconst 1, 1) := by decide +kernel
theorem dX4_add_164 : decode cX4_add 164 = .ok (.ireturn, 1) := by decide +kernel
set_option maxRecDepth 20000 in
theorem ggX4_remove_X4_holds : GoodIn wsX4_remove wsX4_holds := goodIn_r _ [7, 1, 8, 9, 10, 6, 11, 12, 13, 14, 15, 16, 17, 18, 19, 20, 21, 22, 2, 30, 31, 32, 33, 34, 35, 36, 37, 38, 39, 40] (by decide +kernel) (by decide +kernel)
set_option maxRecDepth 20000 in
theorem gX4_remove_X4_holds : GoodIn wsX4_remove (wsV RX4 58 RX4 yX4_holds wsX4_holds) := goodIn_app (goodIn_of _ (by decide +kernel)) ggX4_remove_X4_holds
set_option maxRecDepth 20000 in
theorem ggX4_remove_X4_placeOf : GoodIn wsX4_remove wsX4_placeOf := goodIn_r _ [11, 1, 12, 13, 14, 6, 15, 16, 17, 18, 19, 20, 21, 22, 2, 30, 31, 32, 33, 34, 35, 36, 37, 38, 39, 40] (by decide +kernel) (by decide +kernel)
set_option maxRecDepth 20000 in
theorem gX4_remove_X4_placeOf : GoodIn wsX4_remove (wsV RX4 51 RX4 yX4_placeOf wsX4_placeOf) := goodIn_app (goodIn_of _ (by decide +kernel)) ggX4_remove_X4_placeOf
set_option maxRecDepth 20000 in
theorem ggX4_remove_X4_changed : GoodIn wsX4_remove wsX4_changed := goodIn_r _ [26, 27, 28, 29, 30, 31, 32, 33, 34, 35, 36, 37, 38, 39, 40] (by decide +kernel) (by decide +kernel)
set_option maxRecDepth 20000 in
theorem gX4_remove_X4_changed : GoodIn wsX4_remove (wsV RX4 62 RX4 yX4_changed wsX4_changed) := goodIn_app (goodIn_of _ (by decide +kernel)) ggX4_remove_X4_changed
theorem dX4_remove_0 : decode cX4_remove 0 = .ok (.aload_n 0, 1) := by decide +kernel
theorem dX4_remove_1 : decode cX4_remove 1 = .ok (.iload_n 1, 1) := by decide +kernel
theorem dX4_remove_2 : decode cX4_remove 2 = .ok (.iload_n 2, 1) := by decide +kernel
theorem dX4_remove_3 : decode cX4_remove 3 = .ok (.iload_n 3, 1) := by decide +kernel
theorem dX4_remove_4 : decode cX4_remove 4 = .ok (.invokevirtual 58, 3) := by decide +kernel
theorem dX4_remove_7 : decode cX4_remove 7 = .ok (.ifCond .ne 5, 3) := by decide +kernel
theorem dX4_remove_10 : decode cX4_remove 10 = .ok (.iconst 0, 1) := by decide +kernel
theorem dX4_remove_11 : decode cX4_remove 11 = .ok (.ireturn, 1) := by decide +kernel
theorem dX4_remove_12 : decode cX4_remove 12 = .ok (.iconst 0, 1) := by decide +kernel
theorem dX4_remove_13 : decode cX4_remove 13 = .ok (.istore 4, 2) := by decide +kernel
theorem dX4_remove_15 : decode cX4_remove 15 = .ok (.iload 4, 2) := by decide +kernel
theorem dX4_remove_17 : decode cX4_remove 17 = .ok (.iconst 3, 1) := by decide +kernel
theorem dX4_remove_18 : decode cX4_remove 18 = .ok (.if_icmp .ge 75, 3) := by decide +kernel
theorem dX4_remove_21 : decode cX4_remove 21 = .ok (.aload_n 0, 1) := by decide +kernel
theorem dX4_remove_22 : decode cX4_remove 22 = .ok (.iload 4, 2) := by decide +kernel
theorem dX4_remove_24 : decode cX4_remove 24 = .ok (.iload_n 1, 1) := by decide +kernel
theorem dX4_remove_25 : decode cX4_remove 25 = .ok (.iload_n 2, 1) := by decide +kernel
theorem dX4_remove_26 : decode cX4_remove 26 = .ok (.iload_n 3, 1) := by decide +kernel
theorem dX4_remove_27 : decode cX4_remove 27 = .ok (.invokevirtual 51, 3) := by decide +kernel
theorem dX4_remove_30 : decode cX4_remove 30 = .ok (.istore 5, 2) := by decide +kernel
theorem dX4_remove_32 : decode cX4_remove 32 = .ok (.sipush 2101, 3) := by decide +kernel
theorem dX4_remove_35 : decode cX4_remove 35 = .ok (.iload 4, 2) := by decide +kernel
theorem dX4_remove_37 : decode cX4_remove 37 = .ok (.imul, 1) := by decide +kernel
theorem dX4_remove_38 : decode cX4_remove 38 = .ok (.istore 6, 2) := by decide +kernel
theorem dX4_remove_40 : decode cX4_remove 40 = .ok (.iconst 3, 1) := by decide +kernel
theorem dX4_remove_41 : decode cX4_remove 41 = .ok (.iload 5, 2) := by decide +kernel
theorem dX4_remove_43 : decode cX4_remove 43 = .ok (.imul, 1) := by decide +kernel
theorem dX4_remove_44 : decode cX4_remove 44 = .ok (.istore 7, 2) := by decide +kernel
theorem dX4_remove_46 : decode cX4_remove 46 = .ok (.iload 7, 2) := by decide +kernel
theorem dX4_remove_48 : decode cX4_remove 48 = .ok (.iconst 3, 1) := by decide +kernel
theorem dX4_remove_49 : decode cX4_remove 49 = .ok (.aload_n 0, 1) := by decide +kernel
theorem dX4_remove_50 : decode cX4_remove 50 = .ok (.getfield 35, 3) := by decide +kernel
theorem dX4_remove_53 : decode cX4_remove 53 = .ok (.imul, 1) := by decide +kernel
theorem dX4_remove_54 : decode cX4_remove 54 = .ok (.iconst 3, 1) := by decide +kernel
theorem dX4_remove_55 : decode cX4_remove 55 = .ok (.isub, 1) := by decide +kernel
theorem dX4_remove_56 : decode cX4_remove 56 = .ok (.if_icmp .ge 31, 3) := by decide +kernel
theorem dX4_remove_59 : decode cX4_remove 59 = .ok (.aload_n 0, 1) := by decide +kernel
theorem dX4_remove_60 : decode cX4_remove 60 = .ok (.getfield 7, 3) := by decide +kernel
theorem dX4_remove_63 : decode cX4_remove 63 = .ok (.iload 6, 2) := by decide +kernel
theorem dX4_remove_65 : decode cX4_remove 65 = .ok (.iload 7, 2) := by decide +kernel
theorem dX4_remove_67 : decode cX4_remove 67 = .ok (.iadd, 1) := by decide +kernel
theorem dX4_remove_68 : decode cX4_remove 68 = .ok (.aload_n 0, 1) := by decide +kernel
theorem dX4_remove_69 : decode cX4_remove 69 = .ok (.getfield 7, 3) := by decide +kernel
theorem dX4_remove_72 : decode cX4_remove 72 = .ok (.iload 6, 2) := by decide +kernel
theorem dX4_remove_74 : decode cX4_remove 74 = .ok (.iload 7, 2) := by decide +kernel
theorem dX4_remove_76 : decode cX4_remove 76 = .ok (.iadd, 1) := by decide +kernel
theorem dX4_remove_77 : decode cX4_remove 77 = .ok (.iconst 3, 1) := by decide +kernel
theorem dX4_remove_78 : decode cX4_remove 78 = .ok (.iadd, 1) := by decide +kernel
theorem dX4_remove_79 : decode cX4_remove 79 = .ok (.iaload, 1) := by decide +kernel
theorem dX4_remove_80 : decode cX4_remove 80 = .ok (.iastore, 1) := by decide +kernel
theorem dX4_remove_81 : decode cX4_remove 81 = .ok (.iinc 7 1, 3) := by decide +kernel
theorem dX4_remove_84 : decode cX4_remove 84 = .ok (.goto (-38), 3) := by decide +kernel
theorem dX4_remove_87 : decode cX4_remove 87 = .ok (.iinc 4 1, 3) := by decide +kernel
theorem dX4_remove_90 : decode cX4_remove 90 = .ok (.goto (-75), 3) := by decide +kernel
theorem dX4_remove_93 : decode cX4_remove 93 = .ok (.aload_n 0, 1) := by decide +kernel
theorem dX4_remove_94 : decode cX4_remove 94 = .ok (.dup, 1) := by decide +kernel
theorem dX4_remove_95 : decode cX4_remove 95 = .ok (.getfield 35, 3) := by decide +kernel
theorem dX4_remove_98 : decode cX4_remove 98 = .ok (.iconst 1, 1) := by decide +kernel
theorem dX4_remove_99 : decode cX4_remove 99 = .ok (.isub, 1) := by decide +kernel
theorem dX4_remove_100 : decode cX4_remove 100 = .ok (.putfield 35, 3) := by decide +kernel
theorem dX4_remove_103 : decode cX4_remove 103 = .ok (.aload_n 0, 1) := by decide +kernel
theorem dX4_remove_104 : decode cX4_remove 104 = .ok (.invokevirtual 62, 3) := by decide +kernel
theorem dX4_remove_107 : decode cX4_remove 107 = .ok (.iconst 1, 1) := by decide +kernel
theorem dX4_remove_108 : decode cX4_remove 108 = .ok (.ireturn, 1) := by decide +kernel
set_option maxRecDepth 20000 in
theorem ggX4_matches_X4_cell : GoodIn wsX4_matches wsX4_cell := goodIn_r _ [5, 6, 7, 8, 9, 10, 11, 12, 13, 14, 15, 16, 17] (by decide +kernel) (by decide +kernel)
set_option maxRecDepth 20000 in
theorem gX4_matches_X4_cell : GoodIn wsX4_matches (wsV RX4 43 RX4 yX4_cell wsX4_cell) := goodIn_app (goodIn_of _ (by decide +kernel)) ggX4_matches_X4_cell
theorem dX4_matches_0 : decode cX4_matches 0 = .ok (.iload_n 3, 1) := by decide +kernel
theorem dX4_matches_1 : decode cX4_matches 1 = .ok (.iconst 1, 1) := by decide +kernel
theorem dX4_matches_2 : decode cX4_matches 2 = .ok (.iand, 1) := by decide +kernel
theorem dX4_matches_3 : decode cX4_matches 3 = .ok (.ifCond .eq 15, 3) := by decide +kernel
theorem dX4_matches_6 : decode cX4_matches 6 = .ok (.aload_n 0, 1) := by decide +kernel
theorem dX4_matches_7 : decode cX4_matches 7 = .ok (.iload_n 1, 1) := by decide +kernel
theorem dX4_matches_8 : decode cX4_matches 8 = .ok (.iload_n 2, 1) := by decide +kernel
theorem dX4_matches_9 : decode cX4_matches 9 = .ok (.iconst 0, 1) := by decide +kernel
theorem dX4_matches_10 : decode cX4_matches 10 = .ok (.invokevirtual 43, 3) := by decide +kernel
theorem dX4_matches_13 : decode cX4_matches 13 = .ok (.iload 4, 2) := by decide +kernel
theorem dX4_matches_15 : decode cX4_matches 15 = .ok (.if_icmp .ne 43, 3) := by decide +kernel
theorem dX4_matches_18 : decode cX4_matches 18 = .ok (.iload_n 3, 1) := by decide +kernel
theorem dX4_matches_19 : decode cX4_matches 19 = .ok (.iconst 2, 1) := by decide +kernel
theorem dX4_matches_20 : decode cX4_matches 20 = .ok (.iand, 1) := by decide +kernel
theorem dX4_matches_21 : decode cX4_matches 21 = .ok (.ifCond .eq 15, 3) := by decide +kernel
theorem dX4_matches_24 : decode cX4_matches 24 = .ok (.aload_n 0, 1) := by decide +kernel
theorem dX4_matches_25 : decode cX4_matches 25 = .ok (.iload_n 1, 1) := by decide +kernel
theorem dX4_matches_26 : decode cX4_matches 26 = .ok (.iload_n 2, 1) := by decide +kernel
theorem dX4_matches_27 : decode cX4_matches 27 = .ok (.iconst 1, 1) := by decide +kernel
theorem dX4_matches_28 : decode cX4_matches 28 = .ok (.invokevirtual 43, 3) := by decide +kernel
theorem dX4_matches_31 : decode cX4_matches 31 = .ok (.iload 5, 2) := by decide +kernel
theorem dX4_matches_33 : decode cX4_matches 33 = .ok (.if_icmp .ne 25, 3) := by decide +kernel
theorem dX4_matches_36 : decode cX4_matches 36 = .ok (.iload_n 3, 1) := by decide +kernel
theorem dX4_matches_37 : decode cX4_matches 37 = .ok (.iconst 4, 1) := by decide +kernel
theorem dX4_matches_38 : decode cX4_matches 38 = .ok (.iand, 1) := by decide +kernel
theorem dX4_matches_39 : decode cX4_matches 39 = .ok (.ifCond .eq 15, 3) := by decide +kernel
theorem dX4_matches_42 : decode cX4_matches 42 = .ok (.aload_n 0, 1) := by decide +kernel
theorem dX4_matches_43 : decode cX4_matches 43 = .ok (.iload_n 1, 1) := by decide +kernel
theorem dX4_matches_44 : decode cX4_matches 44 = .ok (.iload_n 2, 1) := by decide +kernel
theorem dX4_matches_45 : decode cX4_matches 45 = .ok (.iconst 2, 1) := by decide +kernel
theorem dX4_matches_46 : decode cX4_matches 46 = .ok (.invokevirtual 43, 3) := by decide +kernel
theorem dX4_matches_49 : decode cX4_matches 49 = .ok (.iload 6, 2) := by decide +kernel
theorem dX4_matches_51 : decode cX4_matches 51 = .ok (.if_icmp .ne 7, 3) := by decide +kernel
theorem dX4_matches_54 : decode cX4_matches 54 = .ok (.iconst 1, 1) := by decide +kernel
theorem dX4_matches_55 : decode cX4_matches 55 = .ok (.goto 4, 3) := by decide +kernel
theorem dX4_matches_58 : decode cX4_matches 58 = .ok (.iconst 0, 1) := by decide +kernel
theorem dX4_matches_59 : decode cX4_matches 59 = .ok (.ireturn, 1) := by decide +kernel
theorem dX4_isMask_0 : decode cX4_isMask 0 = .ok (.iload_n 0, 1) := by decide +kernel
theorem dX4_isMask_1 : decode cX4_isMask 1 = .ok (.ifCond .lt 13, 3) := by decide +kernel
theorem dX4_isMask_4 : decode cX4_isMask 4 = .ok (.iload_n 0, 1) := by decide +kernel
theorem dX4_isMask_5 : decode cX4_isMask 5 = .ok (.bipush 7, 2) := by decide +kernel
theorem dX4_isMask_7 : decode cX4_isMask 7 = .ok (.if_icmp .gt 7, 3) := by decide +kernel
theorem dX4_isMask_10 : decode cX4_isMask 10 = .ok (.iconst 1, 1) := by decide +kernel
theorem dX4_isMask_11 : decode cX4_isMask 11 = .ok (.goto 4, 3) := by decide +kernel
theorem dX4_isMask_14 : decode cX4_isMask 14 = .ok (.iconst 0, 1) := by decide +kernel
theorem dX4_isMask_15 : decode cX4_isMask 15 = .ok (.ireturn, 1) := by decide +kernel
set_option maxRecDepth 20000 in
theorem ggX4_removeAll_X4_isMask : GoodIn wsX4_removeAll wsX4_isMask := goodIn_r _ [5] (by decide +kernel) (by decide +kernel)
set_option maxRecDepth 20000 in
theorem gX4_removeAll_X4_isMask : GoodIn wsX4_removeAll (va_wsS RX4 65 yX4_isMask wsX4_isMask) := goodIn_app (goodIn_of _ (by decide +kernel)) ggX4_removeAll_X4_isMask
set_option maxRecDepth 20000 in
theorem ggX4_removeAll_X4_matches : GoodIn wsX4_removeAll wsX4_matches := goodIn_r _ [9, 10, 11, 12, 4, 13, 14, 41, 42, 43, 44, 45, 46, 47, 48, 49, 50, 51] (by decide +kernel) (by decide +kernel)
set_option maxRecDepth 20000 in
theorem gX4_removeAll_X4_matches : GoodIn wsX4_removeAll (wsV RX4 69 RX4 yX4_matches wsX4_matches) := goodIn_app (goodIn_of _ (by decide +kernel)) ggX4_removeAll_X4_matches
set_option maxRecDepth 20000 in
theorem ggX4_removeAll_X4_cell : GoodIn wsX4_removeAll wsX4_cell := goodIn_r _ [13, 14, 41, 42, 43, 44, 45, 46, 47, 48, 49, 50, 51] (by decide +kernel) (by decide +kernel)
set_option maxRecDepth 20000 in
theorem gX4_removeAll_X4_cell : GoodIn wsX4_removeAll (wsV RX4 43 RX4 yX4_cell wsX4_cell) := goodIn_app (goodIn_of _ (by decide +kernel)) ggX4_removeAll_X4_cell
set_option maxRecDepth 20000 in
theorem ggX4_removeAll_X4_remove : GoodIn wsX4_removeAll wsX4_remove := goodIn_r _ [18, 1, 14, 19, 20, 21, 4, 22, 23, 24, 25, 26, 27, 28, 29, 30, 31, 32, 33, 10, 11, 12, 13, 34, 35, 36, 37, 38, 39, 40, 41, 42, 43, 44, 45, 46, 47, 48, 49, 50, 51] (by decide +kernel) (by decide +kernel)
set_option maxRecDepth 20000 in
theorem gX4_removeAll_X4_remove : GoodIn wsX4_removeAll (wsV RX4 73 RX4 yX4_remove wsX4_remove) := goodIn_app (goodIn_of _ (by decide +kernel)) ggX4_removeAll_X4_remove
theorem dX4_removeAll_0 : decode cX4_removeAll 0 = .ok (.iload_n 1, 1) := by decide +kernel
theorem dX4_removeAll_1 : decode cX4_removeAll 1 = .ok (.invokestatic 65, 3) := by decide +kernel
theorem dX4_removeAll_4 : decode cX4_removeAll 4 = .ok (.ifCond .ne 5, 3) := by decide +kernel
theorem dX4_removeAll_7 : decode cX4_removeAll 7 = .ok (.iconst (-1), 1) := by decide +kernel
theorem dX4_removeAll_8 : decode cX4_removeAll 8 = .ok (.ireturn, 1) := by decide +kernel
theorem dX4_removeAll_9 : decode cX4_removeAll 9 = .ok (.iconst 0, 1) := by decide +kernel
theorem dX4_removeAll_10 : decode cX4_removeAll 10 = .ok (.istore 5, 2) := by decide +kernel
theorem dX4_removeAll_12 : decode cX4_removeAll 12 = .ok (.iconst 0, 1) := by decide +kernel
theorem dX4_removeAll_13 : decode cX4_removeAll 13 = .ok (.istore 6, 2) := by decide +kernel
theorem dX4_removeAll_15 : decode cX4_removeAll 15 = .ok (.iload 6, 2) := by decide +kernel
theorem dX4_removeAll_17 : decode cX4_removeAll 17 = .ok (.aload_n 0, 1) := by decide +kernel
theorem dX4_removeAll_18 : decode cX4_removeAll 18 = .ok (.getfield 35, 3) := by decide +kernel
theorem dX4_removeAll_21 : decode cX4_removeAll 21 = .ok (.if_icmp .ge 59, 3) := by decide +kernel
theorem dX4_removeAll_24 : decode cX4_removeAll 24 = .ok (.aload_n 0, 1) := by decide +kernel
theorem dX4_removeAll_25 : decode cX4_removeAll 25 = .ok (.iconst 0, 1) := by decide +kernel
theorem dX4_removeAll_26 : decode cX4_removeAll 26 = .ok (.iload 6, 2) := by decide +kernel
theorem dX4_removeAll_28 : decode cX4_removeAll 28 = .ok (.iload_n 1, 1) := by decide +kernel
theorem dX4_removeAll_29 : decode cX4_removeAll 29 = .ok (.iload_n 2, 1) := by decide +kernel
theorem dX4_removeAll_30 : decode cX4_removeAll 30 = .ok (.iload_n 3, 1) := by decide +kernel
theorem dX4_removeAll_31 : decode cX4_removeAll 31 = .ok (.iload 4, 2) := by decide +kernel
theorem dX4_removeAll_33 : decode cX4_removeAll 33 = .ok (.invokevirtual 69, 3) := by decide +kernel
theorem dX4_removeAll_36 : decode cX4_removeAll 36 = .ok (.ifCond .eq 38, 3) := by decide +kernel
theorem dX4_removeAll_39 : decode cX4_removeAll 39 = .ok (.aload_n 0, 1) := by decide +kernel
theorem dX4_removeAll_40 : decode cX4_removeAll 40 = .ok (.aload_n 0, 1) := by decide +kernel
theorem dX4_removeAll_41 : decode cX4_removeAll 41 = .ok (.iconst 0, 1) := by decide +kernel
theorem dX4_removeAll_42 : decode cX4_removeAll 42 = .ok (.iload 6, 2) := by decide +kernel
theorem dX4_removeAll_44 : decode cX4_removeAll 44 = .ok (.iconst 0, 1) := by decide +kernel
theorem dX4_removeAll_45 : decode cX4_removeAll 45 = .ok (.invokevirtual 43, 3) := by decide +kernel
theorem dX4_removeAll_48 : decode cX4_removeAll 48 = .ok (.aload_n 0, 1) := by decide +kernel
theorem dX4_removeAll_49 : decode cX4_removeAll 49 = .ok (.iconst 0, 1) := by decide +kernel
theorem dX4_removeAll_50 : decode cX4_removeAll 50 = .ok (.iload 6, 2) := by decide +kernel
theorem dX4_removeAll_52 : decode cX4_removeAll 52 = .ok (.iconst 1, 1) := by decide +kernel
theorem dX4_removeAll_53 : decode cX4_removeAll 53 = .ok (.invokevirtual 43, 3) := by decide +kernel
theorem dX4_removeAll_56 : decode cX4_removeAll 56 = .ok (.aload_n 0, 1) := by decide +kernel
theorem dX4_removeAll_57 : decode cX4_removeAll 57 = .ok (.iconst 0, 1) := by decide +kernel
theorem dX4_removeAll_58 : decode cX4_removeAll 58 = .ok (.iload 6, 2) := by decide +kernel
theorem dX4_removeAll_60 : decode cX4_removeAll 60 = .ok (.iconst 2, 1) := by decide +kernel
theorem dX4_removeAll_61 : decode cX4_removeAll 61 = .ok (.invokevirtual 43, 3) := by decide +kernel
theorem dX4_removeAll_64 : decode cX4_removeAll 64 = .ok (.invokevirtual 73, 3) := by decide +kernel
theorem dX4_removeAll_67 : decode cX4_removeAll 67 = .ok (.pop, 1) := by decide +kernel
theorem dX4_removeAll_68 : decode cX4_removeAll 68 = .ok (.iinc 5 1, 3) := by decide +kernel
theorem dX4_removeAll_71 : decode cX4_removeAll 71 = .ok (.goto (-56), 3) := by decide +kernel
theorem dX4_removeAll_74 : decode cX4_removeAll 74 = .ok (.iinc 6 1, 3) := by decide +kernel
theorem dX4_removeAll_77 : decode cX4_removeAll 77 = .ok (.goto (-62), 3) := by decide +kernel
theorem dX4_removeAll_80 : decode cX4_removeAll 80 = .ok (.iload 5, 2) := by decide +kernel
theorem dX4_removeAll_82 : decode cX4_removeAll 82 = .ok (.ireturn, 1) := by decide +kernel
set_option maxRecDepth 20000 in
theorem ggX4_many_X4_isMask : GoodIn wsX4_many wsX4_isMask := goodIn_r _ [5] (by decide +kernel) (by decide +kernel)
set_option maxRecDepth 20000 in
theorem gX4_many_X4_isMask : GoodIn wsX4_many (va_wsS RX4 65 yX4_isMask wsX4_isMask) := goodIn_app (goodIn_of _ (by decide +kernel)) ggX4_many_X4_isMask
set_option maxRecDepth 20000 in
theorem ggX4_many_X4_matches : GoodIn wsX4_many wsX4_matches := goodIn_r _ [9, 10, 11, 12, 4, 13, 14, 15, 16, 17, 18, 19, 20, 21, 22, 23, 24, 25] (by decide +kernel) (by decide +kernel)
set_option maxRecDepth 20000 in
theorem gX4_many_X4_matches : GoodIn wsX4_many (wsV RX4 69 RX4 yX4_matches wsX4_matches) := goodIn_app (goodIn_of _ (by decide +kernel)) ggX4_many_X4_matches
theorem dX4_many_0 : decode cX4_many 0 = .ok (.iload_n 1, 1) := by decide +kernel
theorem dX4_many_1 : decode cX4_many 1 = .ok (.invokestatic 65, 3) := by decide +kernel
theorem dX4_many_4 : decode cX4_many 4 = .ok (.ifCond .ne 5, 3) := by decide +kernel
theorem dX4_many_7 : decode cX4_many 7 = .ok (.iconst (-1), 1) := by decide +kernel
theorem dX4_many_8 : decode cX4_many 8 = .ok (.ireturn, 1) := by decide +kernel
theorem dX4_many_9 : decode cX4_many 9 = .ok (.iconst 0, 1) := by decide +kernel
theorem dX4_many_10 : decode cX4_many 10 = .ok (.istore 5, 2) := by decide +kernel
theorem dX4_many_12 : decode cX4_many 12 = .ok (.iconst 0, 1) := by decide +kernel
theorem dX4_many_13 : decode cX4_many 13 = .ok (.istore 6, 2) := by decide +kernel
theorem dX4_many_15 : decode cX4_many 15 = .ok (.iload 6, 2) := by decide +kernel
theorem dX4_many_17 : decode cX4_many 17 = .ok (.aload_n 0, 1) := by decide +kernel
theorem dX4_many_18 : decode cX4_many 18 = .ok (.getfield 35, 3) := by decide +kernel
theorem dX4_many_21 : decode cX4_many 21 = .ok (.if_icmp .ge 34, 3) := by decide +kernel
theorem dX4_many_24 : decode cX4_many 24 = .ok (.iload 5, 2) := by decide +kernel
theorem dX4_many_26 : decode cX4_many 26 = .ok (.aload_n 0, 1) := by decide +kernel
theorem dX4_many_27 : decode cX4_many 27 = .ok (.iconst 0, 1) := by decide +kernel
theorem dX4_many_28 : decode cX4_many 28 = .ok (.iload 6, 2) := by decide +kernel
theorem dX4_many_30 : decode cX4_many 30 = .ok (.iload_n 1, 1) := by decide +kernel
theorem dX4_many_31 : decode cX4_many 31 = .ok (.iload_n 2, 1) := by decide +kernel
theorem dX4_many_32 : decode cX4_many 32 = .ok (.iload_n 3, 1) := by decide +kernel
theorem dX4_many_33 : decode cX4_many 33 = .ok (.iload 4, 2) := by decide +kernel
theorem dX4_many_35 : decode cX4_many 35 = .ok (.invokevirtual 69, 3) := by decide +kernel
theorem dX4_many_38 : decode cX4_many 38 = .ok (.ifCond .eq 7, 3) := by decide +kernel
theorem dX4_many_41 : decode cX4_many 41 = .ok (.iconst 1, 1) := by decide +kernel
theorem dX4_many_42 : decode cX4_many 42 = .ok (.goto 4, 3) := by decide +kernel
theorem dX4_many_45 : decode cX4_many 45 = .ok (.iconst 0, 1) := by decide +kernel
theorem dX4_many_46 : decode cX4_many 46 = .ok (.iadd, 1) := by decide +kernel
theorem dX4_many_47 : decode cX4_many 47 = .ok (.istore 5, 2) := by decide +kernel
theorem dX4_many_49 : decode cX4_many 49 = .ok (.iinc 6 1, 3) := by decide +kernel
theorem dX4_many_52 : decode cX4_many 52 = .ok (.goto (-37), 3) := by decide +kernel
theorem dX4_many_55 : decode cX4_many 55 = .ok (.iload 5, 2) := by decide +kernel
theorem dX4_many_57 : decode cX4_many 57 = .ok (.ireturn, 1) := by decide +kernel
set_option maxRecDepth 20000 in
theorem ggX4_open_X4_isMask : GoodIn wsX4_open wsX4_isMask := goodIn_r _ [9] (by decide +kernel) (by decide +kernel)
set_option maxRecDepth 20000 in
theorem gX4_open_X4_isMask : GoodIn wsX4_open (va_wsS RX4 65 yX4_isMask wsX4_isMask) := goodIn_app (goodIn_of _ (by decide +kernel)) ggX4_open_X4_isMask
theorem dX4_open_0 : decode cX4_open 0 = .ok (.iload_n 1, 1) := by decide +kernel
theorem dX4_open_1 : decode cX4_open 1 = .ok (.invokestatic 65, 3) := by decide +kernel
theorem dX4_open_4 : decode cX4_open 4 = .ok (.ifCond .ne 5, 3) := by decide +kernel
theorem dX4_open_7 : decode cX4_open 7 = .ok (.iconst (-1), 1) := by decide +kernel
theorem dX4_open_8 : decode cX4_open 8 = .ok (.ireturn, 1) := by decide +kernel
theorem dX4_open_9 : decode cX4_open 9 = .ok (.iconst 0, 1) := by decide +kernel
theorem dX4_open_10 : decode cX4_open 10 = .ok (.istore 5, 2) := by decide +kernel
theorem dX4_open_12 : decode cX4_open 12 = .ok (.iload 5, 2) := by decide +kernel
theorem dX4_open_14 : decode cX4_open 14 = .ok (.bipush 8, 2) := by decide +kernel
theorem dX4_open_16 : decode cX4_open 16 = .ok (.if_icmp .ge 19, 3) := by decide +kernel
theorem dX4_open_19 : decode cX4_open 19 = .ok (.aload_n 0, 1) := by decide +kernel
theorem dX4_open_20 : decode cX4_open 20 = .ok (.getfield 13, 3) := by decide +kernel
theorem dX4_open_23 : decode cX4_open 23 = .ok (.iload 5, 2) := by decide +kernel
theorem dX4_open_25 : decode cX4_open 25 = .ok (.baload, 1) := by decide +kernel
theorem dX4_open_26 : decode cX4_open 26 = .ok (.ifCond .eq 9, 3) := by decide +kernel
theorem dX4_open_29 : decode cX4_open 29 = .ok (.iinc 5 1, 3) := by decide +kernel
theorem dX4_open_32 : decode cX4_open 32 = .ok (.goto (-20), 3) := by decide +kernel
theorem dX4_open_35 : decode cX4_open 35 = .ok (.iload 5, 2) := by decide +kernel
theorem dX4_open_37 : decode cX4_open 37 = .ok (.bipush 8, 2) := by decide +kernel
theorem dX4_open_39 : decode cX4_open 39 = .ok (.if_icmp .ne 6, 3) := by decide +kernel
theorem dX4_open_42 : decode cX4_open 42 = .ok (.bipush (-2), 2) := by decide +kernel
theorem dX4_open_44 : decode cX4_open 44 = .ok (.ireturn, 1) := by decide +kernel
theorem dX4_open_45 : decode cX4_open 45 = .ok (.aload_n 0, 1) := by decide +kernel
theorem dX4_open_46 : decode cX4_open 46 = .ok (.getfield 13, 3) := by decide +kernel
theorem dX4_open_49 : decode cX4_open 49 = .ok (.iload 5, 2) := by decide +kernel
theorem dX4_open_51 : decode cX4_open 51 = .ok (.iconst 1, 1) := by decide +kernel
theorem dX4_open_52 : decode cX4_open 52 = .ok (.bastore, 1) := by decide +kernel
theorem dX4_open_53 : decode cX4_open 53 = .ok (.aload_n 0, 1) := by decide +kernel
theorem dX4_open_54 : decode cX4_open 54 = .ok (.getfield 17, 3) := by decide +kernel
theorem dX4_open_57 : decode cX4_open 57 = .ok (.iload 5, 2) := by decide +kernel
theorem dX4_open_59 : decode cX4_open 59 = .ok (.iconst 0, 1) := by decide +kernel
theorem dX4_open_60 : decode cX4_open 60 = .ok (.bastore, 1) := by decide +kernel
theorem dX4_open_61 : decode cX4_open 61 = .ok (.aload_n 0, 1) := by decide +kernel
theorem dX4_open_62 : decode cX4_open 62 = .ok (.getfield 20, 3) := by decide +kernel
theorem dX4_open_65 : decode cX4_open 65 = .ok (.iload 5, 2) := by decide +kernel
theorem dX4_open_67 : decode cX4_open 67 = .ok (.iload_n 1, 1) := by decide +kernel
theorem dX4_open_68 : decode cX4_open 68 = .ok (.iastore, 1) := by decide +kernel
theorem dX4_open_69 : decode cX4_open 69 = .ok (.aload_n 0, 1) := by decide +kernel
theorem dX4_open_70 : decode cX4_open 70 = .ok (.getfield 23, 3) := by decide +kernel
theorem dX4_open_73 : decode cX4_open 73 = .ok (.iconst 3, 1) := by decide +kernel
theorem dX4_open_74 : decode cX4_open 74 = .ok (.iload 5, 2) := by decide +kernel
theorem dX4_open_76 : decode cX4_open 76 = .ok (.imul, 1) := by decide +kernel
theorem dX4_open_77 : decode cX4_open 77 = .ok (.iload_n 2, 1) := by decide +kernel
theorem dX4_open_78 : decode cX4_open 78 = .ok (.iastore, 1) := by decide +kernel
theorem dX4_open_79 : decode cX4_open 79 = .ok (.aload_n 0, 1) := by decide +kernel
theorem dX4_open_80 : decode cX4_open 80 = .ok (.getfield 23, 3) := by decide +kernel
theorem dX4_open_83 : decode cX4_open 83 = .ok (.iconst 3, 1) := by decide +kernel
theorem dX4_open_84 : decode cX4_open 84 = .ok (.iload 5, 2) := by decide +kernel
theorem dX4_open_86 : decode cX4_open 86 = .ok (.imul, 1) := by decide +kernel
theorem dX4_open_87 : decode cX4_open 87 = .ok (.iconst 1, 1) := by decide +kernel
theorem dX4_open_88 : decode cX4_open 88 = .ok (.iadd, 1) := by decide +kernel
theorem dX4_open_89 : decode cX4_open 89 = .ok (.iload_n 3, 1) := by decide +kernel
theorem dX4_open_90 : decode cX4_open 90 = .ok (.iastore, 1) := by decide +kernel
theorem dX4_open_91 : decode cX4_open 91 = .ok (.aload_n 0, 1) := by decide +kernel
theorem dX4_open_92 : decode cX4_open 92 = .ok (.getfield 23, 3) := by decide +kernel
theorem dX4_open_95 : decode cX4_open 95 = .ok (.iconst 3, 1) := by decide +kernel
theorem dX4_open_96 : decode cX4_open 96 = .ok (.iload 5, 2) := by decide +kernel
theorem dX4_open_98 : decode cX4_open 98 = .ok (.imul, 1) := by decide +kernel
theorem dX4_open_99 : decode cX4_open 99 = .ok (.iconst 2, 1) := by decide +kernel
theorem dX4_open_100 : decode cX4_open 100 = .ok (.iadd, 1) := by decide +kernel
theorem dX4_open_101 : decode cX4_open 101 = .ok (.iload 4, 2) := by decide +kernel
theorem dX4_open_103 : decode cX4_open 103 = .ok (.iastore, 1) := by decide +kernel
theorem dX4_open_104 : decode cX4_open 104 = .ok (.aload_n 0, 1) := by decide +kernel
theorem dX4_open_105 : decode cX4_open 105 = .ok (.getfield 26, 3) := by decide +kernel
theorem dX4_open_108 : decode cX4_open 108 = .ok (.iload 5, 2) := by decide +kernel
theorem dX4_open_110 : decode cX4_open 110 = .ok (.iconst (-1), 1) := by decide +kernel
theorem dX4_open_111 : decode cX4_open 111 = .ok (.iastore, 1) := by decide +kernel
theorem dX4_open_112 : decode cX4_open 112 = .ok (.iload 5, 2) := by decide +kernel
theorem dX4_open_114 : decode cX4_open 114 = .ok (.ireturn, 1) := by decide +kernel
theorem dX4_isCursor_0 : decode cX4_isCursor 0 = .ok (.iload_n 1, 1) := by decide +kernel
theorem dX4_isCursor_1 : decode cX4_isCursor 1 = .ok (.ifCond .lt 22, 3) := by decide +kernel
theorem dX4_isCursor_4 : decode cX4_isCursor 4 = .ok (.iload_n 1, 1) := by decide +kernel
theorem dX4_isCursor_5 : decode cX4_isCursor 5 = .ok (.bipush 8, 2) := by decide +kernel
theorem dX4_isCursor_7 : decode cX4_isCursor 7 = .ok (.if_icmp .ge 16, 3) := by decide +kernel
theorem dX4_isCursor_10 : decode cX4_isCursor 10 = .ok (.aload_n 0, 1) := by decide +kernel
theorem dX4_isCursor_11 : decode cX4_isCursor 11 = .ok (.getfield 13, 3) := by decide +kernel
theorem dX4_isCursor_14 : decode cX4_isCursor 14 = .ok (.iload_n 1, 1) := by decide +kernel
theorem dX4_isCursor_15 : decode cX4_isCursor 15 = .ok (.baload, 1) := by decide +kernel
theorem dX4_isCursor_16 : decode cX4_isCursor 16 = .ok (.ifCond .eq 7, 3) := by decide +kernel
theorem dX4_isCursor_19 : decode cX4_isCursor 19 = .ok (.iconst 1, 1) := by decide +kernel
theorem dX4_isCursor_20 : decode cX4_isCursor 20 = .ok (.goto 4, 3) := by decide +kernel
theorem dX4_isCursor_23 : decode cX4_isCursor 23 = .ok (.iconst 0, 1) := by decide +kernel
theorem dX4_isCursor_24 : decode cX4_isCursor 24 = .ok (.ireturn, 1) := by decide +kernel
set_option maxRecDepth 20000 in
theorem ggX4_goOn_X4_isCursor : GoodIn wsX4_goOn wsX4_isCursor := goodIn_r _ [10, 11, 31, 32, 33, 34, 35, 36, 37, 38, 39, 40, 41] (by decide +kernel) (by decide +kernel)
set_option maxRecDepth 20000 in
theorem gX4_goOn_X4_isCursor : GoodIn wsX4_goOn (wsV RX4 76 RX4 yX4_isCursor wsX4_isCursor) := goodIn_app (goodIn_of _ (by decide +kernel)) ggX4_goOn_X4_isCursor
set_option maxRecDepth 20000 in
theorem ggX4_goOn_X4_orderOf : GoodIn wsX4_goOn wsX4_orderOf := goodIn_r _ [14] (by decide +kernel) (by decide +kernel)
set_option maxRecDepth 20000 in
theorem gX4_goOn_X4_orderOf : GoodIn wsX4_goOn (va_wsS RX4 79 yX4_orderOf wsX4_orderOf) := goodIn_app (goodIn_of _ (by decide +kernel)) ggX4_goOn_X4_orderOf
set_option maxRecDepth 20000 in
theorem ggX4_goOn_X4_matches : GoodIn wsX4_goOn wsX4_matches := goodIn_r _ [18, 19, 20, 21, 9, 22, 23, 31, 32, 33, 34, 35, 36, 37, 38, 39, 40, 41] (by decide +kernel) (by decide +kernel)
set_option maxRecDepth 20000 in
theorem gX4_goOn_X4_matches : GoodIn wsX4_goOn (wsV RX4 69 RX4 yX4_matches wsX4_matches) := goodIn_app (goodIn_of _ (by decide +kernel)) ggX4_goOn_X4_matches
set_option maxRecDepth 20000 in
theorem ggX4_goOn_X4_compare : GoodIn wsX4_goOn wsX4_compare := goodIn_r _ [27, 28, 29, 9, 30, 19, 20, 21, 22, 23, 31, 32, 33, 34, 35, 36, 37, 38, 39, 40, 41] (by decide +kernel) (by decide +kernel)
set_option maxRecDepth 20000 in
theorem gX4_goOn_X4_compare : GoodIn wsX4_goOn (wsV RX4 47 RX4 yX4_compare wsX4_compare) := goodIn_app (goodIn_of _ (by decide +kernel)) ggX4_goOn_X4_compare
theorem dX4_goOn_0 : decode cX4_goOn 0 = .ok (.aload_n 0, 1) := by decide +kernel
theorem dX4_goOn_1 : decode cX4_goOn 1 = .ok (.iload_n 1, 1) := by decide +kernel
theorem dX4_goOn_2 : decode cX4_goOn 2 = .ok (.invokevirtual 76, 3) := by decide +kernel
theorem dX4_goOn_5 : decode cX4_goOn 5 = .ok (.ifCond .ne 5, 3) := by decide +kernel
theorem dX4_goOn_8 : decode cX4_goOn 8 = .ok (.iconst (-1), 1) := by decide +kernel
theorem dX4_goOn_9 : decode cX4_goOn 9 = .ok (.ireturn, 1) := by decide +kernel
theorem dX4_goOn_10 : decode cX4_goOn 10 = .ok (.aload_n 0, 1) := by decide +kernel
theorem dX4_goOn_11 : decode cX4_goOn 11 = .ok (.getfield 17, 3) := by decide +kernel
theorem dX4_goOn_14 : decode cX4_goOn 14 = .ok (.iload_n 1, 1) := by decide +kernel
theorem dX4_goOn_15 : decode cX4_goOn 15 = .ok (.baload, 1) := by decide +kernel
theorem dX4_goOn_16 : decode cX4_goOn 16 = .ok (.ifCond .eq 6, 3) := by decide +kernel
theorem dX4_goOn_19 : decode cX4_goOn 19 = .ok (.bipush (-3), 2) := by decide +kernel
theorem dX4_goOn_21 : decode cX4_goOn 21 = .ok (.ireturn, 1) := by decide +kernel
theorem dX4_goOn_22 : decode cX4_goOn 22 = .ok (.aload_n 0, 1) := by decide +kernel
theorem dX4_goOn_23 : decode cX4_goOn 23 = .ok (.getfield 20, 3) := by decide +kernel
theorem dX4_goOn_26 : decode cX4_goOn 26 = .ok (.iload_n 1, 1) := by decide +kernel
theorem dX4_goOn_27 : decode cX4_goOn 27 = .ok (.iaload, 1) := by decide +kernel
theorem dX4_goOn_28 : decode cX4_goOn 28 = .ok (.invokestatic 79, 3) := by decide +kernel
theorem dX4_goOn_31 : decode cX4_goOn 31 = .ok (.istore 6, 2) := by decide +kernel
theorem dX4_goOn_33 : decode cX4_goOn 33 = .ok (.aload_n 0, 1) := by decide +kernel
theorem dX4_goOn_34 : decode cX4_goOn 34 = .ok (.getfield 26, 3) := by decide +kernel
theorem dX4_goOn_37 : decode cX4_goOn 37 = .ok (.iload_n 1, 1) := by decide +kernel
theorem dX4_goOn_38 : decode cX4_goOn 38 = .ok (.iaload, 1) := by decide +kernel
theorem dX4_goOn_39 : decode cX4_goOn 39 = .ok (.aload_n 0, 1) := by decide +kernel
theorem dX4_goOn_40 : decode cX4_goOn 40 = .ok (.getfield 35, 3) := by decide +kernel
theorem dX4_goOn_43 : decode cX4_goOn 43 = .ok (.if_icmp .ge 14, 3) := by decide +kernel
theorem dX4_goOn_46 : decode cX4_goOn 46 = .ok (.aload_n 0, 1) := by decide +kernel
theorem dX4_goOn_47 : decode cX4_goOn 47 = .ok (.getfield 26, 3) := by decide +kernel
theorem dX4_goOn_50 : decode cX4_goOn 50 = .ok (.iload_n 1, 1) := by decide +kernel
theorem dX4_goOn_51 : decode cX4_goOn 51 = .ok (.iaload, 1) := by decide +kernel
theorem dX4_goOn_52 : decode cX4_goOn 52 = .ok (.iconst 1, 1) := by decide +kernel
theorem dX4_goOn_53 : decode cX4_goOn 53 = .ok (.iadd, 1) := by decide +kernel
theorem dX4_goOn_54 : decode cX4_goOn 54 = .ok (.goto 7, 3) := by decide +kernel
theorem dX4_goOn_57 : decode cX4_goOn 57 = .ok (.aload_n 0, 1) := by decide +kernel
theorem dX4_goOn_58 : decode cX4_goOn 58 = .ok (.getfield 35, 3) := by decide +kernel
theorem dX4_goOn_61 : decode cX4_goOn 61 = .ok (.istore 7, 2) := by decide +kernel
theorem dX4_goOn_63 : decode cX4_goOn 63 = .ok (.iload 7, 2) := by decide +kernel
theorem dX4_goOn_65 : decode cX4_goOn 65 = .ok (.aload_n 0, 1) := by decide +kernel
theorem dX4_goOn_66 : decode cX4_goOn 66 = .ok (.getfield 35, 3) := by decide +kernel
theorem dX4_goOn_69 : decode cX4_goOn 69 = .ok (.if_icmp .ge 74, 3) := by decide +kernel
theorem dX4_goOn_72 : decode cX4_goOn 72 = .ok (.aload_n 0, 1) := by decide +kernel
theorem dX4_goOn_73 : decode cX4_goOn 73 = .ok (.iload 6, 2) := by decide +kernel
theorem dX4_goOn_75 : decode cX4_goOn 75 = .ok (.iload 7, 2) := by decide +kernel
theorem dX4_goOn_77 : decode cX4_goOn 77 = .ok (.aload_n 0, 1) := by decide +kernel
theorem dX4_goOn_78 : decode cX4_goOn 78 = .ok (.getfield 20, 3) := by decide +kernel
theorem dX4_goOn_81 : decode cX4_goOn 81 = .ok (.iload_n 1, 1) := by decide +kernel
theorem dX4_goOn_82 : decode cX4_goOn 82 = .ok (.iaload, 1) := by decide +kernel
theorem dX4_goOn_83 : decode cX4_goOn 83 = .ok (.aload_n 0, 1) := by decide +kernel
theorem dX4_goOn_84 : decode cX4_goOn 84 = .ok (.getfield 23, 3) := by decide +kernel
theorem dX4_goOn_87 : decode cX4_goOn 87 = .ok (.iconst 3, 1) := by decide +kernel
theorem dX4_goOn_88 : decode cX4_goOn 88 = .ok (.iload_n 1, 1) := by decide +kernel
theorem dX4_goOn_89 : decode cX4_goOn 89 = .ok (.imul, 1) := by decide +kernel
theorem dX4_goOn_90 : decode cX4_goOn 90 = .ok (.iaload, 1) := by decide +kernel
theorem dX4_goOn_91 : decode cX4_goOn 91 = .ok (.aload_n 0, 1) := by decide +kernel
theorem dX4_goOn_92 : decode cX4_goOn 92 = .ok (.getfield 23, 3) := by decide +kernel
theorem dX4_goOn_95 : decode cX4_goOn 95 = .ok (.iconst 3, 1) := by decide +kernel
theorem dX4_goOn_96 : decode cX4_goOn 96 = .ok (.iload_n 1, 1) := by decide +kernel
theorem dX4_goOn_97 : decode cX4_goOn 97 = .ok (.imul, 1) := by decide +kernel
theorem dX4_goOn_98 : decode cX4_goOn 98 = .ok (.iconst 1, 1) := by decide +kernel
theorem dX4_goOn_99 : decode cX4_goOn 99 = .ok (.iadd, 1) := by decide +kernel
theorem dX4_goOn_100 : decode cX4_goOn 100 = .ok (.iaload, 1) := by decide +kernel
theorem dX4_goOn_101 : decode cX4_goOn 101 = .ok (.aload_n 0, 1) := by decide +kernel
theorem dX4_goOn_102 : decode cX4_goOn 102 = .ok (.getfield 23, 3) := by decide +kernel
theorem dX4_goOn_105 : decode cX4_goOn 105 = .ok (.iconst 3, 1) := by decide +kernel
theorem dX4_goOn_106 : decode cX4_goOn 106 = .ok (.iload_n 1, 1) := by decide +kernel
theorem dX4_goOn_107 : decode cX4_goOn 107 = .ok (.imul, 1) := by decide +kernel
theorem dX4_goOn_108 : decode cX4_goOn 108 = .ok (.iconst 2, 1) := by decide +kernel
theorem dX4_goOn_109 : decode cX4_goOn 109 = .ok (.iadd, 1) := by decide +kernel
theorem dX4_goOn_110 : decode cX4_goOn 110 = .ok (.iaload, 1) := by decide +kernel
theorem dX4_goOn_111 : decode cX4_goOn 111 = .ok (.invokevirtual 69, 3) := by decide +kernel
theorem dX4_goOn_114 : decode cX4_goOn 114 = .ok (.ifCond .eq 23, 3) := by decide +kernel
theorem dX4_goOn_117 : decode cX4_goOn 117 = .ok (.iload_n 2, 1) := by decide +kernel
theorem dX4_goOn_118 : decode cX4_goOn 118 = .ok (.ifCond .eq 25, 3) := by decide +kernel
theorem dX4_goOn_121 : decode cX4_goOn 121 = .ok (.aload_n 0, 1) := by decide +kernel
theorem dX4_goOn_122 : decode cX4_goOn 122 = .ok (.iload 6, 2) := by decide +kernel
theorem dX4_goOn_124 : decode cX4_goOn 124 = .ok (.iload 7, 2) := by decide +kernel
theorem dX4_goOn_126 : decode cX4_goOn 126 = .ok (.iload_n 3, 1) := by decide +kernel
theorem dX4_goOn_127 : decode cX4_goOn 127 = .ok (.iload 4, 2) := by decide +kernel
theorem dX4_goOn_129 : decode cX4_goOn 129 = .ok (.iload 5, 2) := by decide +kernel
theorem dX4_goOn_131 : decode cX4_goOn 131 = .ok (.invokevirtual 47, 3) := by decide +kernel
theorem dX4_goOn_134 : decode cX4_goOn 134 = .ok (.ifCond .ge 9, 3) := by decide +kernel
theorem dX4_goOn_137 : decode cX4_goOn 137 = .ok (.iinc 7 1, 3) := by decide +kernel
theorem dX4_goOn_140 : decode cX4_goOn 140 = .ok (.goto (-77), 3) := by decide +kernel
theorem dX4_goOn_143 : decode cX4_goOn 143 = .ok (.aload_n 0, 1) := by decide +kernel
theorem dX4_goOn_144 : decode cX4_goOn 144 = .ok (.getfield 26, 3) := by decide +kernel
theorem dX4_goOn_147 : decode cX4_goOn 147 = .ok (.iload_n 1, 1) := by decide +kernel
theorem dX4_goOn_148 : decode cX4_goOn 148 = .ok (.iload 7, 2) := by decide +kernel
theorem dX4_goOn_150 : decode cX4_goOn 150 = .ok (.iastore, 1) := by decide +kernel
theorem dX4_goOn_151 : decode cX4_goOn 151 = .ok (.iload 7, 2) := by decide +kernel
theorem dX4_goOn_153 : decode cX4_goOn 153 = .ok (.aload_n 0, 1) := by decide +kernel
theorem dX4_goOn_154 : decode cX4_goOn 154 = .ok (.getfield 35, 3) := by decide +kernel
theorem dX4_goOn_157 : decode cX4_goOn 157 = .ok (.if_icmp .ge 7, 3) := by decide +kernel
theorem dX4_goOn_160 : decode cX4_goOn 160 = .ok (.iconst 1, 1) := by decide +kernel
theorem dX4_goOn_161 : decode cX4_goOn 161 = .ok (.goto 4, 3) := by decide +kernel
theorem dX4_goOn_164 : decode cX4_goOn 164 = .ok (.iconst 0, 1) := by decide +kernel
theorem dX4_goOn_165 : decode cX4_goOn 165 = .ok (.ireturn, 1) := by decide +kernel
set_option maxRecDepth 20000 in
theorem ggX4_next_X4_goOn : GoodIn wsX4_next wsX4_goOn := goodIn_r _ [5, 6, 7, 8, 9, 10, 11, 12, 13, 4, 14, 15, 16, 17, 18, 19, 20, 21, 22, 23, 24, 25, 26, 27, 28, 29, 30, 31, 32, 33, 34, 35, 36, 37, 38, 39, 40, 41, 42, 43, 44, 45] (by decide +kernel) (by decide +kernel)
set_option maxRecDepth 20000 in
theorem gX4_next_X4_goOn : GoodIn wsX4_next (wsV RX4 83 RX4 yX4_goOn wsX4_goOn) := goodIn_app (goodIn_of _ (by decide +kernel)) ggX4_next_X4_goOn
theorem dX4_next_0 : decode cX4_next 0 = .ok (.aload_n 0, 1) := by decide +kernel
theorem dX4_next_1 : decode cX4_next 1 = .ok (.iload_n 1, 1) := by decide +kernel
theorem dX4_next_2 : decode cX4_next 2 = .ok (.iconst 0, 1) := by decide +kernel
theorem dX4_next_3 : decode cX4_next 3 = .ok (.iconst 0, 1) := by decide +kernel
theorem dX4_next_4 : decode cX4_next 4 = .ok (.iconst 0, 1) := by decide +kernel
theorem dX4_next_5 : decode cX4_next 5 = .ok (.iconst 0, 1) := by decide +kernel
theorem dX4_next_6 : decode cX4_next 6 = .ok (.invokevirtual 83, 3) := by decide +kernel
theorem dX4_next_9 : decode cX4_next 9 = .ok (.ireturn, 1) := by decide +kernel
set_option maxRecDepth 20000 in
theorem ggX4_seek_X4_isCursor : GoodIn wsX4_seek wsX4_isCursor := goodIn_r _ [6, 7, 35, 36, 37, 38, 39, 40, 41, 42, 43, 44, 45] (by decide +kernel) (by decide +kernel)
set_option maxRecDepth 20000 in
theorem gX4_seek_X4_isCursor : GoodIn wsX4_seek (wsV RX4 76 RX4 yX4_isCursor wsX4_isCursor) := goodIn_app (goodIn_of _ (by decide +kernel)) ggX4_seek_X4_isCursor
set_option maxRecDepth 20000 in
theorem ggX4_seek_X4_orderOf : GoodIn wsX4_seek wsX4_orderOf := goodIn_r _ [10] (by decide +kernel) (by decide +kernel)
set_option maxRecDepth 20000 in
theorem gX4_seek_X4_orderOf : GoodIn wsX4_seek (va_wsS RX4 79 yX4_orderOf wsX4_orderOf) := goodIn_app (goodIn_of _ (by decide +kernel)) ggX4_seek_X4_orderOf
set_option maxRecDepth 20000 in
theorem ggX4_seek_X4_goOn : GoodIn wsX4_seek wsX4_goOn := goodIn_r _ [14, 15, 1, 16, 17, 18, 2, 3, 4, 5, 6, 7, 8, 9, 10, 19, 20, 21, 22, 23, 24, 25, 26, 27, 28, 29, 30, 31, 32, 33, 34, 35, 36, 37, 38, 39, 40, 41, 42, 43, 44, 45] (by decide +kernel) (by decide +kernel)
set_option maxRecDepth 20000 in
theorem gX4_seek_X4_goOn : GoodIn wsX4_seek (wsV RX4 83 RX4 yX4_goOn wsX4_goOn) := goodIn_app (goodIn_of _ (by decide +kernel)) ggX4_seek_X4_goOn
theorem dX4_seek_0 : decode cX4_seek 0 = .ok (.aload_n 0, 1) := by decide +kernel
theorem dX4_seek_1 : decode cX4_seek 1 = .ok (.iload_n 1, 1) := by decide +kernel
theorem dX4_seek_2 : decode cX4_seek 2 = .ok (.invokevirtual 76, 3) := by decide +kernel
theorem dX4_seek_5 : decode cX4_seek 5 = .ok (.ifCond .eq 15, 3) := by decide +kernel
theorem dX4_seek_8 : decode cX4_seek 8 = .ok (.aload_n 0, 1) := by decide +kernel
theorem dX4_seek_9 : decode cX4_seek 9 = .ok (.getfield 20, 3) := by decide +kernel
theorem dX4_seek_12 : decode cX4_seek 12 = .ok (.iload_n 1, 1) := by decide +kernel
theorem dX4_seek_13 : decode cX4_seek 13 = .ok (.iaload, 1) := by decide +kernel
theorem dX4_seek_14 : decode cX4_seek 14 = .ok (.invokestatic 79, 3) := by decide +kernel
theorem dX4_seek_17 : decode cX4_seek 17 = .ok (.goto 4, 3) := by decide +kernel
theorem dX4_seek_20 : decode cX4_seek 20 = .ok (.iconst 0, 1) := by decide +kernel
theorem dX4_seek_21 : decode cX4_seek 21 = .ok (.istore 5, 2) := by decide +kernel
theorem dX4_seek_23 : decode cX4_seek 23 = .ok (.iload 5, 2) := by decide +kernel
theorem dX4_seek_25 : decode cX4_seek 25 = .ok (.ifCond .ne 7, 3) := by decide +kernel
theorem dX4_seek_28 : decode cX4_seek 28 = .ok (.iload_n 2, 1) := by decide +kernel
theorem dX4_seek_29 : decode cX4_seek 29 = .ok (.goto 15, 3) := by decide +kernel
theorem dX4_seek_32 : decode cX4_seek 32 = .ok (.iload 5, 2) := by decide +kernel
theorem dX4_seek_34 : decode cX4_seek 34 = .ok (.iconst 1, 1) := by decide +kernel
theorem dX4_seek_35 : decode cX4_seek 35 = .ok (.if_icmp .ne 8, 3) := by decide +kernel
theorem dX4_seek_38 : decode cX4_seek 38 = .ok (.iload 4, 2) := by decide +kernel
theorem dX4_seek_40 : decode cX4_seek 40 = .ok (.goto 4, 3) := by decide +kernel
theorem dX4_seek_43 : decode cX4_seek 43 = .ok (.iload_n 3, 1) := by decide +kernel
theorem dX4_seek_44 : decode cX4_seek 44 = .ok (.istore 6, 2) := by decide +kernel
theorem dX4_seek_46 : decode cX4_seek 46 = .ok (.iload 5, 2) := by decide +kernel
theorem dX4_seek_48 : decode cX4_seek 48 = .ok (.ifCond .ne 7, 3) := by decide +kernel
theorem dX4_seek_51 : decode cX4_seek 51 = .ok (.iload_n 3, 1) := by decide +kernel
theorem dX4_seek_52 : decode cX4_seek 52 = .ok (.goto 15, 3) := by decide +kernel
theorem dX4_seek_55 : decode cX4_seek 55 = .ok (.iload 5, 2) := by decide +kernel
theorem dX4_seek_57 : decode cX4_seek 57 = .ok (.iconst 1, 1) := by decide +kernel
theorem dX4_seek_58 : decode cX4_seek 58 = .ok (.if_icmp .ne 7, 3) := by decide +kernel
theorem dX4_seek_61 : decode cX4_seek 61 = .ok (.iload_n 2, 1) := by decide +kernel
theorem dX4_seek_62 : decode cX4_seek 62 = .ok (.goto 5, 3) := by decide +kernel
theorem dX4_seek_65 : decode cX4_seek 65 = .ok (.iload 4, 2) := by decide +kernel
theorem dX4_seek_67 : decode cX4_seek 67 = .ok (.istore 7, 2) := by decide +kernel
theorem dX4_seek_69 : decode cX4_seek 69 = .ok (.iload 5, 2) := by decide +kernel
theorem dX4_seek_71 : decode cX4_seek 71 = .ok (.ifCond .ne 8, 3) := by decide +kernel
theorem dX4_seek_74 : decode cX4_seek 74 = .ok (.iload 4, 2) := by decide +kernel
theorem dX4_seek_76 : decode cX4_seek 76 = .ok (.goto 14, 3) := by decide +kernel
theorem dX4_seek_79 : decode cX4_seek 79 = .ok (.iload 5, 2) := by decide +kernel
theorem dX4_seek_81 : decode cX4_seek 81 = .ok (.iconst 1, 1) := by decide +kernel
theorem dX4_seek_82 : decode cX4_seek 82 = .ok (.if_icmp .ne 7, 3) := by decide +kernel
theorem dX4_seek_85 : decode cX4_seek 85 = .ok (.iload_n 3, 1) := by decide +kernel
theorem dX4_seek_86 : decode cX4_seek 86 = .ok (.goto 4, 3) := by decide +kernel
theorem dX4_seek_89 : decode cX4_seek 89 = .ok (.iload_n 2, 1) := by decide +kernel
theorem dX4_seek_90 : decode cX4_seek 90 = .ok (.istore 8, 2) := by decide +kernel
theorem dX4_seek_92 : decode cX4_seek 92 = .ok (.aload_n 0, 1) := by decide +kernel
theorem dX4_seek_93 : decode cX4_seek 93 = .ok (.iload_n 1, 1) := by decide +kernel
theorem dX4_seek_94 : decode cX4_seek 94 = .ok (.iconst 1, 1) := by decide +kernel
theorem dX4_seek_95 : decode cX4_seek 95 = .ok (.iload 6, 2) := by decide +kernel
theorem dX4_seek_97 : decode cX4_seek 97 = .ok (.iload 7, 2) := by decide +kernel
theorem dX4_seek_99 : decode cX4_seek 99 = .ok (.iload 8, 2) := by decide +kernel
theorem dX4_seek_101 : decode cX4_seek 101 = .ok (.invokevirtual 83, 3) := by decide +kernel
theorem dX4_seek_104 : decode cX4_seek 104 = .ok (.ireturn, 1) := by decide +kernel
set_option maxRecDepth 20000 in
theorem ggX4_part_X4_isCursor : GoodIn wsX4_part wsX4_isCursor := goodIn_r _ [9, 10, 19, 20, 21, 22, 23, 24, 25, 26, 27, 28, 29] (by decide +kernel) (by decide +kernel)
set_option maxRecDepth 20000 in
theorem gX4_part_X4_isCursor : GoodIn wsX4_part (wsV RX4 76 RX4 yX4_isCursor wsX4_isCursor) := goodIn_app (goodIn_of _ (by decide +kernel)) ggX4_part_X4_isCursor
set_option maxRecDepth 20000 in
theorem ggX4_part_X4_orderOf : GoodIn wsX4_part wsX4_orderOf := goodIn_r _ [13] (by decide +kernel) (by decide +kernel)
set_option maxRecDepth 20000 in
theorem gX4_part_X4_orderOf : GoodIn wsX4_part (va_wsS RX4 79 yX4_orderOf wsX4_orderOf) := goodIn_app (goodIn_of _ (by decide +kernel)) ggX4_part_X4_orderOf
set_option maxRecDepth 20000 in
theorem ggX4_part_X4_cell : GoodIn wsX4_part wsX4_cell := goodIn_r _ [17, 18, 19, 20, 21, 22, 23, 24, 25, 26, 27, 28, 29] (by decide +kernel) (by decide +kernel)
set_option maxRecDepth 20000 in
theorem gX4_part_X4_cell : GoodIn wsX4_part (wsV RX4 43 RX4 yX4_cell wsX4_cell) := goodIn_app (goodIn_of _ (by decide +kernel)) ggX4_part_X4_cell
theorem dX4_part_0 : decode cX4_part 0 = .ok (.aload_n 0, 1) := by decide +kernel
theorem dX4_part_1 : decode cX4_part 1 = .ok (.iload_n 1, 1) := by decide +kernel
theorem dX4_part_2 : decode cX4_part 2 = .ok (.invokevirtual 76, 3) := by decide +kernel
theorem dX4_part_5 : decode cX4_part 5 = .ok (.ifCond .eq 43, 3) := by decide +kernel
theorem dX4_part_8 : decode cX4_part 8 = .ok (.aload_n 0, 1) := by decide +kernel
theorem dX4_part_9 : decode cX4_part 9 = .ok (.getfield 17, 3) := by decide +kernel
theorem dX4_part_12 : decode cX4_part 12 = .ok (.iload_n 1, 1) := by decide +kernel
theorem dX4_part_13 : decode cX4_part 13 = .ok (.baload, 1) := by decide +kernel
theorem dX4_part_14 : decode cX4_part 14 = .ok (.ifCond .ne 34, 3) := by decide +kernel
theorem dX4_part_17 : decode cX4_part 17 = .ok (.iload_n 2, 1) := by decide +kernel
theorem dX4_part_18 : decode cX4_part 18 = .ok (.ifCond .lt 30, 3) := by decide +kernel
theorem dX4_part_21 : decode cX4_part 21 = .ok (.iload_n 2, 1) := by decide +kernel
theorem dX4_part_22 : decode cX4_part 22 = .ok (.iconst 2, 1) := by decide +kernel
theorem dX4_part_23 : decode cX4_part 23 = .ok (.if_icmp .gt 25, 3) := by decide +kernel
theorem dX4_part_26 : decode cX4_part 26 = .ok (.aload_n 0, 1) := by decide +kernel
theorem dX4_part_27 : decode cX4_part 27 = .ok (.getfield 26, 3) := by decide +kernel
theorem dX4_part_30 : decode cX4_part 30 = .ok (.iload_n 1, 1) := by decide +kernel
theorem dX4_part_31 : decode cX4_part 31 = .ok (.iaload, 1) := by decide +kernel
theorem dX4_part_32 : decode cX4_part 32 = .ok (.ifCond .lt 16, 3) := by decide +kernel
theorem dX4_part_35 : decode cX4_part 35 = .ok (.aload_n 0, 1) := by decide +kernel
theorem dX4_part_36 : decode cX4_part 36 = .ok (.getfield 26, 3) := by decide +kernel
theorem dX4_part_39 : decode cX4_part 39 = .ok (.iload_n 1, 1) := by decide +kernel
theorem dX4_part_40 : decode cX4_part 40 = .ok (.iaload, 1) := by decide +kernel
theorem dX4_part_41 : decode cX4_part 41 = .ok (.aload_n 0, 1) := by decide +kernel
theorem dX4_part_42 : decode cX4_part 42 = .ok (.getfield 35, 3) := by decide +kernel
theorem dX4_part_45 : decode cX4_part 45 = .ok (.if_icmp .lt 5, 3) := by decide +kernel
theorem dX4_part_48 : decode cX4_part 48 = .ok (.iconst 0, 1) := by decide +kernel
theorem dX4_part_49 : decode cX4_part 49 = .ok (.ireturn, 1) := by decide +kernel
theorem dX4_part_50 : decode cX4_part 50 = .ok (.aload_n 0, 1) := by decide +kernel
theorem dX4_part_51 : decode cX4_part 51 = .ok (.aload_n 0, 1) := by decide +kernel
theorem dX4_part_52 : decode cX4_part 52 = .ok (.getfield 20, 3) := by decide +kernel
theorem dX4_part_55 : decode cX4_part 55 = .ok (.iload_n 1, 1) := by decide +kernel
theorem dX4_part_56 : decode cX4_part 56 = .ok (.iaload, 1) := by decide +kernel
theorem dX4_part_57 : decode cX4_part 57 = .ok (.invokestatic 79, 3) := by decide +kernel
theorem dX4_part_60 : decode cX4_part 60 = .ok (.aload_n 0, 1) := by decide +kernel
theorem dX4_part_61 : decode cX4_part 61 = .ok (.getfield 26, 3) := by decide +kernel
theorem dX4_part_64 : decode cX4_part 64 = .ok (.iload_n 1, 1) := by decide +kernel
theorem dX4_part_65 : decode cX4_part 65 = .ok (.iaload, 1) := by decide +kernel
theorem dX4_part_66 : decode cX4_part 66 = .ok (.iload_n 2, 1) := by decide +kernel
theorem dX4_part_67 : decode cX4_part 67 = .ok (.invokevirtual 43, 3) := by decide +kernel
theorem dX4_part_70 : decode cX4_part 70 = .ok (.ireturn, 1) := by decide +kernel
set_option maxRecDepth 20000 in
theorem ggX4_close_X4_isCursor : GoodIn wsX4_close wsX4_isCursor := goodIn_r _ [7, 1, 8, 9, 10, 11, 12, 13, 14, 15, 16, 17, 18] (by decide +kernel) (by decide +kernel)
set_option maxRecDepth 20000 in
theorem gX4_close_X4_isCursor : GoodIn wsX4_close (wsV RX4 76 RX4 yX4_isCursor wsX4_isCursor) := goodIn_app (goodIn_of _ (by decide +kernel)) ggX4_close_X4_isCursor
theorem dX4_close_0 : decode cX4_close 0 = .ok (.aload_n 0, 1) := by decide +kernel
theorem dX4_close_1 : decode cX4_close 1 = .ok (.iload_n 1, 1) := by decide +kernel
theorem dX4_close_2 : decode cX4_close 2 = .ok (.invokevirtual 76, 3) := by decide +kernel
theorem dX4_close_5 : decode cX4_close 5 = .ok (.ifCond .ne 5, 3) := by decide +kernel
theorem dX4_close_8 : decode cX4_close 8 = .ok (.iconst 0, 1) := by decide +kernel
theorem dX4_close_9 : decode cX4_close 9 = .ok (.ireturn, 1) := by decide +kernel
theorem dX4_close_10 : decode cX4_close 10 = .ok (.aload_n 0, 1) := by decide +kernel
theorem dX4_close_11 : decode cX4_close 11 = .ok (.getfield 13, 3) := by decide +kernel
theorem dX4_close_14 : decode cX4_close 14 = .ok (.iload_n 1, 1) := by decide +kernel
theorem dX4_close_15 : decode cX4_close 15 = .ok (.iconst 0, 1) := by decide +kernel
theorem dX4_close_16 : decode cX4_close 16 = .ok (.bastore, 1) := by decide +kernel
theorem dX4_close_17 : decode cX4_close 17 = .ok (.aload_n 0, 1) := by decide +kernel
theorem dX4_close_18 : decode cX4_close 18 = .ok (.getfield 17, 3) := by decide +kernel
theorem dX4_close_21 : decode cX4_close 21 = .ok (.iload_n 1, 1) := by decide +kernel
theorem dX4_close_22 : decode cX4_close 22 = .ok (.iconst 0, 1) := by decide +kernel
theorem dX4_close_23 : decode cX4_close 23 = .ok (.bastore, 1) := by decide +kernel
theorem dX4_close_24 : decode cX4_close 24 = .ok (.iconst 1, 1) := by decide +kernel
theorem dX4_close_25 : decode cX4_close 25 = .ok (.ireturn, 1) := by decide +kernel
set_option maxRecDepth 20000 in
theorem ggX4_at_X4_cell : GoodIn wsX4_at wsX4_cell := goodIn_r _ [6, 7, 8, 9, 10, 11, 12, 13, 14, 15, 16, 17, 18] (by decide +kernel) (by decide +kernel)
set_option maxRecDepth 20000 in
theorem gX4_at_X4_cell : GoodIn wsX4_at (wsV RX4 43 RX4 yX4_cell wsX4_cell) := goodIn_app (goodIn_of _ (by decide +kernel)) ggX4_at_X4_cell
theorem dX4_at_0 : decode cX4_at 0 = .ok (.iload_n 1, 1) := by decide +kernel
theorem dX4_at_1 : decode cX4_at 1 = .ok (.ifCond .lt 29, 3) := by decide +kernel
theorem dX4_at_4 : decode cX4_at 4 = .ok (.iload_n 1, 1) := by decide +kernel
theorem dX4_at_5 : decode cX4_at 5 = .ok (.iconst 2, 1) := by decide +kernel
theorem dX4_at_6 : decode cX4_at 6 = .ok (.if_icmp .gt 24, 3) := by decide +kernel
theorem dX4_at_9 : decode cX4_at 9 = .ok (.iload_n 2, 1) := by decide +kernel
theorem dX4_at_10 : decode cX4_at 10 = .ok (.ifCond .lt 20, 3) := by decide +kernel
theorem dX4_at_13 : decode cX4_at 13 = .ok (.iload_n 2, 1) := by decide +kernel
theorem dX4_at_14 : decode cX4_at 14 = .ok (.aload_n 0, 1) := by decide +kernel
theorem dX4_at_15 : decode cX4_at 15 = .ok (.getfield 35, 3) := by decide +kernel
theorem dX4_at_18 : decode cX4_at 18 = .ok (.if_icmp .ge 12, 3) := by decide +kernel
theorem dX4_at_21 : decode cX4_at 21 = .ok (.iload_n 3, 1) := by decide +kernel
theorem dX4_at_22 : decode cX4_at 22 = .ok (.ifCond .lt 8, 3) := by decide +kernel
theorem dX4_at_25 : decode cX4_at 25 = .ok (.iload_n 3, 1) := by decide +kernel
theorem dX4_at_26 : decode cX4_at 26 = .ok (.iconst 2, 1) := by decide +kernel
theorem dX4_at_27 : decode cX4_at 27 = .ok (.if_icmp .le 7, 3) := by decide +kernel
theorem dX4_at_30 : decode cX4_at 30 = .ok (.iconst 0, 1) := by decide +kernel
theorem dX4_at_31 : decode cX4_at 31 = .ok (.goto 10, 3) := by decide +kernel
theorem dX4_at_34 : decode cX4_at 34 = .ok (.aload_n 0, 1) := by decide +kernel
theorem dX4_at_35 : decode cX4_at 35 = .ok (.iload_n 1, 1) := by decide +kernel
theorem dX4_at_36 : decode cX4_at 36 = .ok (.iload_n 2, 1) := by decide +kernel
theorem dX4_at_37 : decode cX4_at 37 = .ok (.iload_n 3, 1) := by decide +kernel
theorem dX4_at_38 : decode cX4_at 38 = .ok (.invokevirtual 43, 3) := by decide +kernel
theorem dX4_at_41 : decode cX4_at 41 = .ok (.ireturn, 1) := by decide +kernel
set_option maxRecDepth 20000 in
theorem ggX4_before_X4_placeOf : GoodIn wsX4_before wsX4_placeOf := goodIn_r _ [5, 6, 7, 8, 9, 4, 10, 11, 12, 13, 14, 15, 16, 17, 18, 19, 20, 21, 22, 23, 24, 25, 26, 27, 28, 29] (by decide +kernel) (by decide +kernel)
set_option maxRecDepth 20000 in
theorem gX4_before_X4_placeOf : GoodIn wsX4_before (wsV RX4 51 RX4 yX4_placeOf wsX4_placeOf) := goodIn_app (goodIn_of _ (by decide +kernel)) ggX4_before_X4_placeOf
theorem dX4_before_0 : decode cX4_before 0 = .ok (.iload_n 1, 1) := by decide +kernel
theorem dX4_before_1 : decode cX4_before 1 = .ok (.ifCond .lt 8, 3) := by decide +kernel
theorem dX4_before_4 : decode cX4_before 4 = .ok (.iload_n 1, 1) := by decide +kernel
theorem dX4_before_5 : decode cX4_before 5 = .ok (.iconst 2, 1) := by decide +kernel
theorem dX4_before_6 : decode cX4_before 6 = .ok (.if_icmp .le 7, 3) := by decide +kernel
theorem dX4_before_9 : decode cX4_before 9 = .ok (.iconst (-1), 1) := by decide +kernel
theorem dX4_before_10 : decode cX4_before 10 = .ok (.goto 12, 3) := by decide +kernel
theorem dX4_before_13 : decode cX4_before 13 = .ok (.aload_n 0, 1) := by decide +kernel
theorem dX4_before_14 : decode cX4_before 14 = .ok (.iload_n 1, 1) := by decide +kernel
theorem dX4_before_15 : decode cX4_before 15 = .ok (.iload_n 2, 1) := by decide +kernel
theorem dX4_before_16 : decode cX4_before 16 = .ok (.iload_n 3, 1) := by decide +kernel
theorem dX4_before_17 : decode cX4_before 17 = .ok (.iload 4, 2) := by decide +kernel
theorem dX4_before_19 : decode cX4_before 19 = .ok (.invokevirtual 51, 3) := by decide +kernel
theorem dX4_before_22 : decode cX4_before 22 = .ok (.ireturn, 1) := by decide +kernel
set_option maxRecDepth 20000 in
theorem ggX4_different_X4_cell : GoodIn wsX4_different wsX4_cell := goodIn_r _ [6, 7, 8, 9, 10, 11, 12, 13, 14, 15, 16, 17, 18] (by decide +kernel) (by decide +kernel)
set_option maxRecDepth 20000 in
theorem gX4_different_X4_cell : GoodIn wsX4_different (wsV RX4 43 RX4 yX4_cell wsX4_cell) := goodIn_app (goodIn_of _ (by decide +kernel)) ggX4_different_X4_cell
theorem dX4_different_0 : decode cX4_different 0 = .ok (.iload_n 1, 1) := by decide +kernel
theorem dX4_different_1 : decode cX4_different 1 = .ok (.ifCond .lt 8, 3) := by decide +kernel
theorem dX4_different_4 : decode cX4_different 4 = .ok (.iload_n 1, 1) := by decide +kernel
theorem dX4_different_5 : decode cX4_different 5 = .ok (.iconst 2, 1) := by decide +kernel
theorem dX4_different_6 : decode cX4_different 6 = .ok (.if_icmp .le 5, 3) := by decide +kernel
theorem dX4_different_9 : decode cX4_different 9 = .ok (.iconst (-1), 1) := by decide +kernel
theorem dX4_different_10 : decode cX4_different 10 = .ok (.ireturn, 1) := by decide +kernel
theorem dX4_different_11 : decode cX4_different 11 = .ok (.iconst 0, 1) := by decide +kernel
theorem dX4_different_12 : decode cX4_different 12 = .ok (.istore_n 2, 1) := by decide +kernel
theorem dX4_different_13 : decode cX4_different 13 = .ok (.iconst 0, 1) := by decide +kernel
theorem dX4_different_14 : decode cX4_different 14 = .ok (.istore_n 3, 1) := by decide +kernel
theorem dX4_different_15 : decode cX4_different 15 = .ok (.iload_n 3, 1) := by decide +kernel
theorem dX4_different_16 : decode cX4_different 16 = .ok (.aload_n 0, 1) := by decide +kernel
theorem dX4_different_17 : decode cX4_different 17 = .ok (.getfield 35, 3) := by decide +kernel
theorem dX4_different_20 : decode cX4_different 20 = .ok (.if_icmp .ge 40, 3) := by decide +kernel
theorem dX4_different_23 : decode cX4_different 23 = .ok (.iload_n 2, 1) := by decide +kernel
theorem dX4_different_24 : decode cX4_different 24 = .ok (.iload_n 3, 1) := by decide +kernel
theorem dX4_different_25 : decode cX4_different 25 = .ok (.ifCond .eq 22, 3) := by decide +kernel
theorem dX4_different_28 : decode cX4_different 28 = .ok (.aload_n 0, 1) := by decide +kernel
theorem dX4_different_29 : decode cX4_different 29 = .ok (.iload_n 1, 1) := by decide +kernel
theorem dX4_different_30 : decode cX4_different 30 = .ok (.iload_n 3, 1) := by decide +kernel
theorem dX4_different_31 : decode cX4_different 31 = .ok (.iload_n 1, 1) := by decide +kernel
theorem dX4_different_32 : decode cX4_different 32 = .ok (.invokevirtual 43, 3) := by decide +kernel
theorem dX4_different_35 : decode cX4_different 35 = .ok (.aload_n 0, 1) := by decide +kernel
theorem dX4_different_36 : decode cX4_different 36 = .ok (.iload_n 1, 1) := by decide +kernel
theorem dX4_different_37 : decode cX4_different 37 = .ok (.iload_n 3, 1) := by decide +kernel
theorem dX4_different_38 : decode cX4_different 38 = .ok (.iconst 1, 1) := by decide +kernel
theorem dX4_different_39 : decode cX4_different 39 = .ok (.isub, 1) := by decide +kernel
theorem dX4_different_40 : decode cX4_different 40 = .ok (.iload_n 1, 1) := by decide +kernel
theorem dX4_different_41 : decode cX4_different 41 = .ok (.invokevirtual 43, 3) := by decide +kernel
theorem dX4_different_44 : decode cX4_different 44 = .ok (.if_icmp .eq 7, 3) := by decide +kernel
theorem dX4_different_47 : decode cX4_different 47 = .ok (.iconst 1, 1) := by decide +kernel
theorem dX4_different_48 : decode cX4_different 48 = .ok (.goto 4, 3) := by decide +kernel
theorem dX4_different_51 : decode cX4_different 51 = .ok (.iconst 0, 1) := by decide +kernel
theorem dX4_different_52 : decode cX4_different 52 = .ok (.iadd, 1) := by decide +kernel
theorem dX4_different_53 : decode cX4_different 53 = .ok (.istore_n 2, 1) := by decide +kernel
theorem dX4_different_54 : decode cX4_different 54 = .ok (.iinc 3 1, 3) := by decide +kernel
theorem dX4_different_57 : decode cX4_different 57 = .ok (.goto (-42), 3) := by decide +kernel
theorem dX4_different_60 : decode cX4_different 60 = .ok (.iload_n 2, 1) := by decide +kernel
theorem dX4_different_61 : decode cX4_different 61 = .ok (.ireturn, 1) := by decide +kernel
set_option maxRecDepth 20000 in
theorem ggX4_chains_X4_cell : GoodIn wsX4_chains wsX4_cell := goodIn_r _ [6, 7, 8, 9, 10, 11, 12, 13, 14, 15, 16, 17, 18] (by decide +kernel) (by decide +kernel)
set_option maxRecDepth 20000 in
theorem gX4_chains_X4_cell : GoodIn wsX4_chains (wsV RX4 43 RX4 yX4_cell wsX4_cell) := goodIn_app (goodIn_of _ (by decide +kernel)) ggX4_chains_X4_cell
theorem dX4_chains_0 : decode cX4_chains 0 = .ok (.iconst 0, 1) := by decide +kernel
theorem dX4_chains_1 : decode cX4_chains 1 = .ok (.istore_n 3, 1) := by decide +kernel
theorem dX4_chains_2 : decode cX4_chains 2 = .ok (.iconst 0, 1) := by decide +kernel
theorem dX4_chains_3 : decode cX4_chains 3 = .ok (.istore 4, 2) := by decide +kernel
theorem dX4_chains_5 : decode cX4_chains 5 = .ok (.iload 4, 2) := by decide +kernel
theorem dX4_chains_7 : decode cX4_chains 7 = .ok (.aload_n 0, 1) := by decide +kernel
theorem dX4_chains_8 : decode cX4_chains 8 = .ok (.getfield 35, 3) := by decide +kernel
theorem dX4_chains_11 : decode cX4_chains 11 = .ok (.if_icmp .ge 78, 3) := by decide +kernel
theorem dX4_chains_14 : decode cX4_chains 14 = .ok (.iconst 0, 1) := by decide +kernel
theorem dX4_chains_15 : decode cX4_chains 15 = .ok (.istore 5, 2) := by decide +kernel
theorem dX4_chains_17 : decode cX4_chains 17 = .ok (.iload 5, 2) := by decide +kernel
theorem dX4_chains_19 : decode cX4_chains 19 = .ok (.aload_n 0, 1) := by decide +kernel
theorem dX4_chains_20 : decode cX4_chains 20 = .ok (.getfield 35, 3) := by decide +kernel
theorem dX4_chains_23 : decode cX4_chains 23 = .ok (.if_icmp .ge 60, 3) := by decide +kernel
theorem dX4_chains_26 : decode cX4_chains 26 = .ok (.aload_n 0, 1) := by decide +kernel
theorem dX4_chains_27 : decode cX4_chains 27 = .ok (.iconst 0, 1) := by decide +kernel
theorem dX4_chains_28 : decode cX4_chains 28 = .ok (.iload 4, 2) := by decide +kernel
theorem dX4_chains_30 : decode cX4_chains 30 = .ok (.iconst 1, 1) := by decide +kernel
theorem dX4_chains_31 : decode cX4_chains 31 = .ok (.invokevirtual 43, 3) := by decide +kernel
theorem dX4_chains_34 : decode cX4_chains 34 = .ok (.iload_n 1, 1) := by decide +kernel
theorem dX4_chains_35 : decode cX4_chains 35 = .ok (.if_icmp .ne 48, 3) := by decide +kernel
theorem dX4_chains_38 : decode cX4_chains 38 = .ok (.iload_n 3, 1) := by decide +kernel
theorem dX4_chains_39 : decode cX4_chains 39 = .ok (.aload_n 0, 1) := by decide +kernel
theorem dX4_chains_40 : decode cX4_chains 40 = .ok (.iconst 0, 1) := by decide +kernel
theorem dX4_chains_41 : decode cX4_chains 41 = .ok (.iload 5, 2) := by decide +kernel
theorem dX4_chains_43 : decode cX4_chains 43 = .ok (.iconst 1, 1) := by decide +kernel
theorem dX4_chains_44 : decode cX4_chains 44 = .ok (.invokevirtual 43, 3) := by decide +kernel
theorem dX4_chains_47 : decode cX4_chains 47 = .ok (.iload_n 2, 1) := by decide +kernel
theorem dX4_chains_48 : decode cX4_chains 48 = .ok (.if_icmp .ne 26, 3) := by decide +kernel
theorem dX4_chains_51 : decode cX4_chains 51 = .ok (.aload_n 0, 1) := by decide +kernel
theorem dX4_chains_52 : decode cX4_chains 52 = .ok (.iconst 0, 1) := by decide +kernel
theorem dX4_chains_53 : decode cX4_chains 53 = .ok (.iload 4, 2) := by decide +kernel
theorem dX4_chains_55 : decode cX4_chains 55 = .ok (.iconst 2, 1) := by decide +kernel
theorem dX4_chains_56 : decode cX4_chains 56 = .ok (.invokevirtual 43, 3) := by decide +kernel
theorem dX4_chains_59 : decode cX4_chains 59 = .ok (.aload_n 0, 1) := by decide +kernel
theorem dX4_chains_60 : decode cX4_chains 60 = .ok (.iconst 0, 1) := by decide +kernel
theorem dX4_chains_61 : decode cX4_chains 61 = .ok (.iload 5, 2) := by decide +kernel
theorem dX4_chains_63 : decode cX4_chains 63 = .ok (.iconst 0, 1) := by decide +kernel
theorem dX4_chains_64 : decode cX4_chains 64 = .ok (.invokevirtual 43, 3) := by decide +kernel
theorem dX4_chains_67 : decode cX4_chains 67 = .ok (.if_icmp .ne 7, 3) := by decide +kernel
theorem dX4_chains_70 : decode cX4_chains 70 = .ok (.iconst 1, 1) := by decide +kernel
theorem dX4_chains_71 : decode cX4_chains 71 = .ok (.goto 4, 3) := by decide +kernel
theorem dX4_chains_74 : decode cX4_chains 74 = .ok (.iconst 0, 1) := by decide +kernel
theorem dX4_chains_75 : decode cX4_chains 75 = .ok (.iadd, 1) := by decide +kernel
theorem dX4_chains_76 : decode cX4_chains 76 = .ok (.istore_n 3, 1) := by decide +kernel
theorem dX4_chains_77 : decode cX4_chains 77 = .ok (.iinc 5 1, 3) := by decide +kernel
theorem dX4_chains_80 : decode cX4_chains 80 = .ok (.goto (-63), 3) := by decide +kernel
theorem dX4_chains_83 : decode cX4_chains 83 = .ok (.iinc 4 1, 3) := by decide +kernel
theorem dX4_chains_86 : decode cX4_chains 86 = .ok (.goto (-81), 3) := by decide +kernel
theorem dX4_chains_89 : decode cX4_chains 89 = .ok (.iload_n 3, 1) := by decide +kernel
theorem dX4_chains_90 : decode cX4_chains 90 = .ok (.ireturn, 1) := by decide +kernel
theorem dX4_find_0 : decode cX4_find 0 = .ok (.iconst 0, 1) := by decide +kernel
theorem dX4_find_1 : decode cX4_find 1 = .ok (.istore_n 2, 1) := by decide +kernel
theorem dX4_find_2 : decode cX4_find 2 = .ok (.iload_n 2, 1) := by decide +kernel
theorem dX4_find_3 : decode cX4_find 3 = .ok (.aload_n 0, 1) := by decide +kernel
theorem dX4_find_4 : decode cX4_find 4 = .ok (.getfield 87, 3) := by decide +kernel
theorem dX4_find_7 : decode cX4_find 7 = .ok (.if_icmp .ge 21, 3) := by decide +kernel
theorem dX4_find_10 : decode cX4_find 10 = .ok (.aload_n 0, 1) := by decide +kernel
theorem dX4_find_11 : decode cX4_find 11 = .ok (.getfield 29, 3) := by decide +kernel
theorem dX4_find_14 : decode cX4_find 14 = .ok (.iload_n 2, 1) := by decide +kernel
theorem dX4_find_15 : decode cX4_find 15 = .ok (.iaload, 1) := by decide +kernel
theorem dX4_find_16 : decode cX4_find 16 = .ok (.iload_n 1, 1) := by decide +kernel
theorem dX4_find_17 : decode cX4_find 17 = .ok (.if_icmp .ne 5, 3) := by decide +kernel
theorem dX4_find_20 : decode cX4_find 20 = .ok (.iload_n 2, 1) := by decide +kernel
theorem dX4_find_21 : decode cX4_find 21 = .ok (.ireturn, 1) := by decide +kernel
theorem dX4_find_22 : decode cX4_find 22 = .ok (.iinc 2 1, 3) := by decide +kernel
theorem dX4_find_25 : decode cX4_find 25 = .ok (.goto (-23), 3) := by decide +kernel
theorem dX4_find_28 : decode cX4_find 28 = .ok (.iconst (-1), 1) := by decide +kernel
theorem dX4_find_29 : decode cX4_find 29 = .ok (.ireturn, 1) := by decide +kernel
set_option maxRecDepth 20000 in
theorem ggX4_go_X4_cell : GoodIn wsX4_go wsX4_cell := goodIn_r _ [9, 10, 15, 16, 17, 18, 19, 20, 21, 22, 23, 24, 25] (by decide +kernel) (by decide +kernel)
set_option maxRecDepth 20000 in
theorem gX4_go_X4_cell : GoodIn wsX4_go (wsV RX4 43 RX4 yX4_cell wsX4_cell) := goodIn_app (goodIn_of _ (by decide +kernel)) ggX4_go_X4_cell
set_option maxRecDepth 20000 in
theorem ggX4_go_X4_find : GoodIn wsX4_go wsX4_find := goodIn_r _ [14, 3, 1, 15, 16, 17, 18, 19, 20, 21, 22, 23, 24, 25] (by decide +kernel) (by decide +kernel)
set_option maxRecDepth 20000 in
theorem gX4_go_X4_find : GoodIn wsX4_go (wsV RX4 90 RX4 yX4_find wsX4_find) := goodIn_app (goodIn_of _ (by decide +kernel)) ggX4_go_X4_find
theorem dX4_go_0 : decode cX4_go 0 = .ok (.aload_n 0, 1) := by decide +kernel
theorem dX4_go_1 : decode cX4_go 1 = .ok (.getfield 29, 3) := by decide +kernel
theorem dX4_go_4 : decode cX4_go 4 = .ok (.iconst 0, 1) := by decide +kernel
theorem dX4_go_5 : decode cX4_go 5 = .ok (.iload_n 2, 1) := by decide +kernel
theorem dX4_go_6 : decode cX4_go 6 = .ok (.iastore, 1) := by decide +kernel
theorem dX4_go_7 : decode cX4_go 7 = .ok (.aload_n 0, 1) := by decide +kernel
theorem dX4_go_8 : decode cX4_go 8 = .ok (.getfield 32, 3) := by decide +kernel
theorem dX4_go_11 : decode cX4_go 11 = .ok (.iconst 0, 1) := by decide +kernel
theorem dX4_go_12 : decode cX4_go 12 = .ok (.iconst 0, 1) := by decide +kernel
theorem dX4_go_13 : decode cX4_go 13 = .ok (.iastore, 1) := by decide +kernel
theorem dX4_go_14 : decode cX4_go 14 = .ok (.aload_n 0, 1) := by decide +kernel
theorem dX4_go_15 : decode cX4_go 15 = .ok (.iconst 1, 1) := by decide +kernel
theorem dX4_go_16 : decode cX4_go 16 = .ok (.putfield 87, 3) := by decide +kernel
theorem dX4_go_19 : decode cX4_go 19 = .ok (.iconst 0, 1) := by decide +kernel
theorem dX4_go_20 : decode cX4_go 20 = .ok (.istore_n 3, 1) := by decide +kernel
theorem dX4_go_21 : decode cX4_go 21 = .ok (.iload_n 3, 1) := by decide +kernel
theorem dX4_go_22 : decode cX4_go 22 = .ok (.aload_n 0, 1) := by decide +kernel
theorem dX4_go_23 : decode cX4_go 23 = .ok (.getfield 87, 3) := by decide +kernel
theorem dX4_go_26 : decode cX4_go 26 = .ok (.if_icmp .ge 116, 3) := by decide +kernel
theorem dX4_go_29 : decode cX4_go 29 = .ok (.iconst 0, 1) := by decide +kernel
theorem dX4_go_30 : decode cX4_go 30 = .ok (.istore 4, 2) := by decide +kernel
theorem dX4_go_32 : decode cX4_go 32 = .ok (.iload 4, 2) := by decide +kernel
theorem dX4_go_34 : decode cX4_go 34 = .ok (.aload_n 0, 1) := by decide +kernel
theorem dX4_go_35 : decode cX4_go 35 = .ok (.getfield 35, 3) := by decide +kernel
theorem dX4_go_38 : decode cX4_go 38 = .ok (.if_icmp .ge 98, 3) := by decide +kernel
theorem dX4_go_41 : decode cX4_go 41 = .ok (.aload_n 0, 1) := by decide +kernel
theorem dX4_go_42 : decode cX4_go 42 = .ok (.iconst 0, 1) := by decide +kernel
theorem dX4_go_43 : decode cX4_go 43 = .ok (.iload 4, 2) := by decide +kernel
theorem dX4_go_45 : decode cX4_go 45 = .ok (.iconst 1, 1) := by decide +kernel
theorem dX4_go_46 : decode cX4_go 46 = .ok (.invokevirtual 43, 3) := by decide +kernel
theorem dX4_go_49 : decode cX4_go 49 = .ok (.iload_n 1, 1) := by decide +kernel
theorem dX4_go_50 : decode cX4_go 50 = .ok (.if_icmp .ne 80, 3) := by decide +kernel
theorem dX4_go_53 : decode cX4_go 53 = .ok (.aload_n 0, 1) := by decide +kernel
theorem dX4_go_54 : decode cX4_go 54 = .ok (.iconst 0, 1) := by decide +kernel
theorem dX4_go_55 : decode cX4_go 55 = .ok (.iload 4, 2) := by decide +kernel
theorem dX4_go_57 : decode cX4_go 57 = .ok (.iconst 0, 1) := by decide +kernel
theorem dX4_go_58 : decode cX4_go 58 = .ok (.invokevirtual 43, 3) := by decide +kernel
theorem dX4_go_61 : decode cX4_go 61 = .ok (.aload_n 0, 1) := by decide +kernel
theorem dX4_go_62 : decode cX4_go 62 = .ok (.getfield 29, 3) := by decide +kernel
theorem dX4_go_65 : decode cX4_go 65 = .ok (.iload_n 3, 1) := by decide +kernel
theorem dX4_go_66 : decode cX4_go 66 = .ok (.iaload, 1) := by decide +kernel
theorem dX4_go_67 : decode cX4_go 67 = .ok (.if_icmp .ne 63, 3) := by decide +kernel
theorem dX4_go_70 : decode cX4_go 70 = .ok (.aload_n 0, 1) := by decide +kernel
theorem dX4_go_71 : decode cX4_go 71 = .ok (.aload_n 0, 1) := by decide +kernel
theorem dX4_go_72 : decode cX4_go 72 = .ok (.iconst 0, 1) := by decide +kernel
theorem dX4_go_73 : decode cX4_go 73 = .ok (.iload 4, 2) := by decide +kernel
theorem dX4_go_75 : decode cX4_go 75 = .ok (.iconst 2, 1) := by decide +kernel
theorem dX4_go_76 : decode cX4_go 76 = .ok (.invokevirtual 43, 3) := by decide +kernel
theorem dX4_go_79 : decode cX4_go 79 = .ok (.invokevirtual 90, 3) := by decide +kernel
theorem dX4_go_82 : decode cX4_go 82 = .ok (.iconst (-1), 1) := by decide +kernel
theorem dX4_go_83 : decode cX4_go 83 = .ok (.if_icmp .ne 47, 3) := by decide +kernel
theorem dX4_go_86 : decode cX4_go 86 = .ok (.aload_n 0, 1) := by decide +kernel
theorem dX4_go_87 : decode cX4_go 87 = .ok (.getfield 29, 3) := by decide +kernel
theorem dX4_go_90 : decode cX4_go 90 = .ok (.aload_n 0, 1) := by decide +kernel
theorem dX4_go_91 : decode cX4_go 91 = .ok (.getfield 87, 3) := by decide +kernel
theorem dX4_go_94 : decode cX4_go 94 = .ok (.aload_n 0, 1) := by decide +kernel
theorem dX4_go_95 : decode cX4_go 95 = .ok (.iconst 0, 1) := by decide +kernel
theorem dX4_go_96 : decode cX4_go 96 = .ok (.iload 4, 2) := by decide +kernel
theorem dX4_go_98 : decode cX4_go 98 = .ok (.iconst 2, 1) := by decide +kernel
theorem dX4_go_99 : decode cX4_go 99 = .ok (.invokevirtual 43, 3) := by decide +kernel
theorem dX4_go_102 : decode cX4_go 102 = .ok (.iastore, 1) := by decide +kernel
theorem dX4_go_103 : decode cX4_go 103 = .ok (.aload_n 0, 1) := by decide +kernel
theorem dX4_go_104 : decode cX4_go 104 = .ok (.getfield 32, 3) := by decide +kernel
theorem dX4_go_107 : decode cX4_go 107 = .ok (.aload_n 0, 1) := by decide +kernel
theorem dX4_go_108 : decode cX4_go 108 = .ok (.getfield 87, 3) := by decide +kernel
theorem dX4_go_111 : decode cX4_go 111 = .ok (.aload_n 0, 1) := by decide +kernel
theorem dX4_go_112 : decode cX4_go 112 = .ok (.getfield 32, 3) := by decide +kernel
theorem dX4_go_115 : decode cX4_go 115 = .ok (.iload_n 3, 1) := by decide +kernel
theorem dX4_go_116 : decode cX4_go 116 = .ok (.iaload, 1) := by decide +kernel
theorem dX4_go_117 : decode cX4_go 117 = .ok (.iconst 1, 1) := by decide +kernel
theorem dX4_go_118 : decode cX4_go 118 = .ok (.iadd, 1) := by decide +kernel
theorem dX4_go_119 : decode cX4_go 119 = .ok (.iastore, 1) := by decide +kernel
theorem dX4_go_120 : decode cX4_go 120 = .ok (.aload_n 0, 1) := by decide +kernel
theorem dX4_go_121 : decode cX4_go 121 = .ok (.dup, 1) := by decide +kernel
theorem dX4_go_122 : decode cX4_go 122 = .ok (.getfield 87, 3) := by decide +kernel
theorem dX4_go_125 : decode cX4_go 125 = .ok (.iconst 1, 1) := by decide +kernel
theorem dX4_go_126 : decode cX4_go 126 = .ok (.iadd, 1) := by decide +kernel
theorem dX4_go_127 : decode cX4_go 127 = .ok (.putfield 87, 3) := by decide +kernel
theorem dX4_go_130 : decode cX4_go 130 = .ok (.iinc 4 1, 3) := by decide +kernel
theorem dX4_go_133 : decode cX4_go 133 = .ok (.goto (-101), 3) := by decide +kernel
theorem dX4_go_136 : decode cX4_go 136 = .ok (.iinc 3 1, 3) := by decide +kernel
theorem dX4_go_139 : decode cX4_go 139 = .ok (.goto (-118), 3) := by decide +kernel
theorem dX4_go_142 : decode cX4_go 142 = .ok (.return_, 1) := by decide +kernel
set_option maxRecDepth 20000 in
theorem ggX4_far_X4_go : GoodIn wsX4_far wsX4_go := goodIn_r _ [6, 7, 1, 8, 9, 10, 11, 12, 5, 13, 14, 15, 16, 17, 18, 19, 20, 21, 22, 23, 24, 25, 26, 27, 28, 29] (by decide +kernel) (by decide +kernel)
set_option maxRecDepth 20000 in
theorem gX4_far_X4_go : GoodIn wsX4_far (wsV RX4 93 RX4 yX4_go wsX4_go) := goodIn_app (goodIn_of _ (by decide +kernel)) ggX4_far_X4_go
set_option maxRecDepth 20000 in
theorem ggX4_far_X4_find : GoodIn wsX4_far wsX4_find := goodIn_r _ [18, 8, 7, 19, 20, 21, 22, 23, 24, 25, 26, 27, 28, 29] (by decide +kernel) (by decide +kernel)
set_option maxRecDepth 20000 in
theorem gX4_far_X4_find : GoodIn wsX4_far (wsV RX4 90 RX4 yX4_find wsX4_find) := goodIn_app (goodIn_of _ (by decide +kernel)) ggX4_far_X4_find
theorem dX4_far_0 : decode cX4_far 0 = .ok (.aload_n 0, 1) := by decide +kernel
theorem dX4_far_1 : decode cX4_far 1 = .ok (.iload_n 1, 1) := by decide +kernel
theorem dX4_far_2 : decode cX4_far 2 = .ok (.iload_n 2, 1) := by decide +kernel
theorem dX4_far_3 : decode cX4_far 3 = .ok (.invokevirtual 93, 3) := by decide +kernel
theorem dX4_far_6 : decode cX4_far 6 = .ok (.aload_n 0, 1) := by decide +kernel
theorem dX4_far_7 : decode cX4_far 7 = .ok (.iload_n 3, 1) := by decide +kernel
theorem dX4_far_8 : decode cX4_far 8 = .ok (.invokevirtual 90, 3) := by decide +kernel
theorem dX4_far_11 : decode cX4_far 11 = .ok (.istore 4, 2) := by decide +kernel
theorem dX4_far_13 : decode cX4_far 13 = .ok (.iload 4, 2) := by decide +kernel
theorem dX4_far_15 : decode cX4_far 15 = .ok (.iconst (-1), 1) := by decide +kernel
theorem dX4_far_16 : decode cX4_far 16 = .ok (.if_icmp .ne 7, 3) := by decide +kernel
theorem dX4_far_19 : decode cX4_far 19 = .ok (.iconst (-1), 1) := by decide +kernel
theorem dX4_far_20 : decode cX4_far 20 = .ok (.goto 10, 3) := by decide +kernel
theorem dX4_far_23 : decode cX4_far 23 = .ok (.aload_n 0, 1) := by decide +kernel
theorem dX4_far_24 : decode cX4_far 24 = .ok (.getfield 32, 3) := by decide +kernel
theorem dX4_far_27 : decode cX4_far 27 = .ok (.iload 4, 2) := by decide +kernel
theorem dX4_far_29 : decode cX4_far 29 = .ok (.iaload, 1) := by decide +kernel
theorem dX4_far_30 : decode cX4_far 30 = .ok (.ireturn, 1) := by decide +kernel
set_option maxRecDepth 20000 in
theorem ggX4_reached_X4_go : GoodIn wsX4_reached wsX4_go := goodIn_r _ [6, 7, 8, 1, 9, 10, 11, 12, 5, 13, 14, 15, 16, 17, 18, 19, 20, 21, 22, 23, 24, 25, 26, 27, 28, 29] (by decide +kernel) (by decide +kernel)
set_option maxRecDepth 20000 in
theorem gX4_reached_X4_go : GoodIn wsX4_reached (wsV RX4 93 RX4 yX4_go wsX4_go) := goodIn_app (goodIn_of _ (by decide +kernel)) ggX4_reached_X4_go
theorem dX4_reached_0 : decode cX4_reached 0 = .ok (.aload_n 0, 1) := by decide +kernel
theorem dX4_reached_1 : decode cX4_reached 1 = .ok (.iload_n 1, 1) := by decide +kernel
theorem dX4_reached_2 : decode cX4_reached 2 = .ok (.iload_n 2, 1) := by decide +kernel
theorem dX4_reached_3 : decode cX4_reached 3 = .ok (.invokevirtual 93, 3) := by decide +kernel
theorem dX4_reached_6 : decode cX4_reached 6 = .ok (.aload_n 0, 1) := by decide +kernel
theorem dX4_reached_7 : decode cX4_reached 7 = .ok (.getfield 87, 3) := by decide +kernel
theorem dX4_reached_10 : decode cX4_reached 10 = .ok (.ireturn, 1) := by decide +kernel
theorem dX4_size_0 : decode cX4_size 0 = .ok (.aload_n 0, 1) := by decide +kernel
theorem dX4_size_1 : decode cX4_size 1 = .ok (.getfield 35, 3) := by decide +kernel
theorem dX4_size_4 : decode cX4_size 4 = .ok (.ireturn, 1) := by decide +kernel
theorem dX4_changes_0 : decode cX4_changes 0 = .ok (.aload_n 0, 1) := by decide +kernel
theorem dX4_changes_1 : decode cX4_changes 1 = .ok (.getfield 55, 3) := by decide +kernel
theorem dX4_changes_4 : decode cX4_changes 4 = .ok (.ireturn, 1) := by decide +kernel
theorem dJ6_bitCount_0f7a4_0 : decode cJ6_bitCount_0f7a4 0 = .ok (.iload_n 0, 1) := by decide +kernel
theorem dJ6_bitCount_0f7a4_1 : decode cJ6_bitCount_0f7a4 1 = .ok (.iload_n 0, 1) := by decide +kernel
theorem dJ6_bitCount_0f7a4_2 : decode cJ6_bitCount_0f7a4 2 = .ok (.iconst 1, 1) := by decide +kernel
theorem dJ6_bitCount_0f7a4_3 : decode cJ6_bitCount_0f7a4 3 = .ok (.iushr, 1) := by decide +kernel
theorem dJ6_bitCount_0f7a4_4 : decode cJ6_bitCount_0f7a4 4 = .ok (.ldc_w 265, 3) := by decide +kernel
theorem dJ6_bitCount_0f7a4_7 : decode cJ6_bitCount_0f7a4 7 = .ok (.iand, 1) := by decide +kernel
theorem dJ6_bitCount_0f7a4_8 : decode cJ6_bitCount_0f7a4 8 = .ok (.isub, 1) := by decide +kernel
theorem dJ6_bitCount_0f7a4_9 : decode cJ6_bitCount_0f7a4 9 = .ok (.istore_n 0, 1) := by decide +kernel
theorem dJ6_bitCount_0f7a4_10 : decode cJ6_bitCount_0f7a4 10 = .ok (.iload_n 0, 1) := by decide +kernel
theorem dJ6_bitCount_0f7a4_11 : decode cJ6_bitCount_0f7a4 11 = .ok (.ldc_w 266, 3) := by decide +kernel
theorem dJ6_bitCount_0f7a4_14 : decode cJ6_bitCount_0f7a4 14 = .ok (.iand, 1) := by decide +kernel
theorem dJ6_bitCount_0f7a4_15 : decode cJ6_bitCount_0f7a4 15 = .ok (.iload_n 0, 1) := by decide +kernel
theorem dJ6_bitCount_0f7a4_16 : decode cJ6_bitCount_0f7a4 16 = .ok (.iconst 2, 1) := by decide +kernel
theorem dJ6_bitCount_0f7a4_17 : decode cJ6_bitCount_0f7a4 17 = .ok (.iushr, 1) := by decide +kernel
theorem dJ6_bitCount_0f7a4_18 : decode cJ6_bitCount_0f7a4 18 = .ok (.ldc_w 266, 3) := by decide +kernel
theorem dJ6_bitCount_0f7a4_21 : decode cJ6_bitCount_0f7a4 21 = .ok (.iand, 1) := by decide +kernel
theorem dJ6_bitCount_0f7a4_22 : decode cJ6_bitCount_0f7a4 22 = .ok (.iadd, 1) := by decide +kernel
theorem dJ6_bitCount_0f7a4_23 : decode cJ6_bitCount_0f7a4 23 = .ok (.istore_n 0, 1) := by decide +kernel
theorem dJ6_bitCount_0f7a4_24 : decode cJ6_bitCount_0f7a4 24 = .ok (.iload_n 0, 1) := by decide +kernel
theorem dJ6_bitCount_0f7a4_25 : decode cJ6_bitCount_0f7a4 25 = .ok (.iload_n 0, 1) := by decide +kernel
theorem dJ6_bitCount_0f7a4_26 : decode cJ6_bitCount_0f7a4 26 = .ok (.iconst 4, 1) := by decide +kernel
theorem dJ6_bitCount_0f7a4_27 : decode cJ6_bitCount_0f7a4 27 = .ok (.iushr, 1) := by decide +kernel
theorem dJ6_bitCount_0f7a4_28 : decode cJ6_bitCount_0f7a4 28 = .ok (.iadd, 1) := by decide +kernel
theorem dJ6_bitCount_0f7a4_29 : decode cJ6_bitCount_0f7a4 29 = .ok (.ldc_w 267, 3) := by decide +kernel
theorem dJ6_bitCount_0f7a4_32 : decode cJ6_bitCount_0f7a4 32 = .ok (.iand, 1) := by decide +kernel
theorem dJ6_bitCount_0f7a4_33 : decode cJ6_bitCount_0f7a4 33 = .ok (.istore_n 0, 1) := by decide +kernel
theorem dJ6_bitCount_0f7a4_34 : decode cJ6_bitCount_0f7a4 34 = .ok (.iload_n 0, 1) := by decide +kernel
theorem dJ6_bitCount_0f7a4_35 : decode cJ6_bitCount_0f7a4 35 = .ok (.iload_n 0, 1) := by decide +kernel
theorem dJ6_bitCount_0f7a4_36 : decode cJ6_bitCount_0f7a4 36 = .ok (.bipush 8, 2) := by decide +kernel
theorem dJ6_bitCount_0f7a4_38 : decode cJ6_bitCount_0f7a4 38 = .ok (.iushr, 1) := by decide +kernel
theorem dJ6_bitCount_0f7a4_39 : decode cJ6_bitCount_0f7a4 39 = .ok (.iadd, 1) := by decide +kernel
theorem dJ6_bitCount_0f7a4_40 : decode cJ6_bitCount_0f7a4 40 = .ok (.istore_n 0, 1) := by decide +kernel
theorem dJ6_bitCount_0f7a4_41 : decode cJ6_bitCount_0f7a4 41 = .ok (.iload_n 0, 1) := by decide +kernel
theorem dJ6_bitCount_0f7a4_42 : decode cJ6_bitCount_0f7a4 42 = .ok (.iload_n 0, 1) := by decide +kernel
theorem dJ6_bitCount_0f7a4_43 : decode cJ6_bitCount_0f7a4 43 = .ok (.bipush 16, 2) := by decide +kernel
theorem dJ6_bitCount_0f7a4_45 : decode cJ6_bitCount_0f7a4 45 = .ok (.iushr, 1) := by decide +kernel
theorem dJ6_bitCount_0f7a4_46 : decode cJ6_bitCount_0f7a4 46 = .ok (.iadd, 1) := by decide +kernel
theorem dJ6_bitCount_0f7a4_47 : decode cJ6_bitCount_0f7a4 47 = .ok (.istore_n 0, 1) := by decide +kernel
theorem dJ6_bitCount_0f7a4_48 : decode cJ6_bitCount_0f7a4 48 = .ok (.iload_n 0, 1) := by decide +kernel
theorem dJ6_bitCount_0f7a4_49 : decode cJ6_bitCount_0f7a4 49 = .ok (.bipush 63, 2) := by decide +kernel
theorem dJ6_bitCount_0f7a4_51 : decode cJ6_bitCount_0f7a4 51 = .ok (.iand, 1) := by decide +kernel
theorem dJ6_bitCount_0f7a4_52 : decode cJ6_bitCount_0f7a4 52 = .ok (.ireturn, 1) := by decide +kernel
theorem dJ9_max_7cf53_0 : decode cJ9_max_7cf53 0 = .ok (.iload_n 0, 1) := by decide +kernel
theorem dJ9_max_7cf53_1 : decode cJ9_max_7cf53 1 = .ok (.iload_n 1, 1) := by decide +kernel
theorem dJ9_max_7cf53_2 : decode cJ9_max_7cf53 2 = .ok (.if_icmp .lt 7, 3) := by decide +kernel
theorem dJ9_max_7cf53_5 : decode cJ9_max_7cf53 5 = .ok (.iload_n 0, 1) := by decide +kernel
theorem dJ9_max_7cf53_6 : decode cJ9_max_7cf53 6 = .ok (.goto 4, 3) := by decide +kernel
theorem dJ9_max_7cf53_9 : decode cJ9_max_7cf53 9 = .ok (.iload_n 1, 1) := by decide +kernel
theorem dJ9_max_7cf53_10 : decode cJ9_max_7cf53 10 = .ok (.ireturn, 1) := by decide +kernel
theorem dJ9_min_7cf53_0 : decode cJ9_min_7cf53 0 = .ok (.iload_n 0, 1) := by decide +kernel
theorem dJ9_min_7cf53_1 : decode cJ9_min_7cf53 1 = .ok (.iload_n 1, 1) := by decide +kernel
theorem dJ9_min_7cf53_2 : decode cJ9_min_7cf53 2 = .ok (.if_icmp .gt 7, 3) := by decide +kernel
theorem dJ9_min_7cf53_5 : decode cJ9_min_7cf53 5 = .ok (.iload_n 0, 1) := by decide +kernel
theorem dJ9_min_7cf53_6 : decode cJ9_min_7cf53 6 = .ok (.goto 4, 3) := by decide +kernel
theorem dJ9_min_7cf53_9 : decode cJ9_min_7cf53 9 = .ok (.iload_n 1, 1) := by decide +kernel
theorem dJ9_min_7cf53_10 : decode cJ9_min_7cf53 10 = .ok (.ireturn, 1) := by decide +kernel
set_option maxRecDepth 20000 in
theorem ggL_law_X3_init : GoodIn wsL_law wsX3_init := goodIn_r _ [8, 9, 10, 11, 12, 13, 14, 15, 16, 17, 18, 19, 20, 21, 22, 23, 24, 25, 26, 27, 28, 29, 30, 31, 32, 33, 34, 35, 36, 37, 38, 39, 40, 384, 385, 386, 387, 399, 400, 401, 402, 403, 404, 405, 406, 407, 408, 409, 410, 411] (by decide +kernel) (by decide +kernel)
set_option maxRecDepth 20000 in
theorem gL_law_X3_init : GoodIn wsL_law (wsX3_init) := ggL_law_X3_init
set_option maxRecDepth 20000 in
theorem ggL_law_X4_init : GoodIn wsL_law wsX4_init := goodIn_r _ [43, 44, 10, 11, 28, 45, 39, 46, 47, 48, 49, 50, 51, 52, 53, 388, 389, 390, 391, 392, 393, 394, 395, 396, 397, 398] (by decide +kernel) (by decide +kernel)
set_option maxRecDepth 20000 in
theorem gL_law_X4_init : GoodIn wsL_law (wsX4_init) := ggL_law_X4_init
set_option maxRecDepth 20000 in
theorem ggL_law_X3_add : GoodIn wsL_law wsX3_add := goodIn_r _ [57, 13, 58, 59, 60, 61, 2, 62, 63, 64, 65, 66, 67, 68, 69, 70, 71, 72, 73, 74, 75, 76, 77, 15, 78, 79, 80, 81, 82, 30, 83, 84, 85, 86, 87, 88, 89, 90, 91, 29, 92, 93, 94, 95, 96, 97, 98, 99, 100, 101, 102, 103, 104, 384, 385, 386, 387, 399, 400, 401] (by decide +kernel) (by decide +kernel)
set_option maxRecDepth 20000 in
theorem gL_law_X3_add : GoodIn wsL_law (wsV RL 13 RX3 yX3_add wsX3_add) := goodIn_app (goodIn_of _ (by decide +kernel)) ggL_law_X3_add
set_option maxRecDepth 20000 in
theorem ggL_law_X4_add : GoodIn wsL_law wsX4_add := goodIn_r _ [108, 53, 45, 109, 110, 111, 5, 112, 113, 114, 115, 116, 117, 118, 119, 120, 121, 122, 123, 124, 125, 126, 127, 128, 129, 130, 131, 132, 47, 46, 388, 389, 390, 391, 392, 393, 394, 395, 396, 397, 398] (by decide +kernel) (by decide +kernel)
set_option maxRecDepth 20000 in
theorem gL_law_X4_add : GoodIn wsL_law (wsV RL 17 RX4 yX4_add wsX4_add) := goodIn_app (goodIn_of _ (by decide +kernel)) ggL_law_X4_add
set_option maxRecDepth 20000 in
theorem ggL_law_X3_remove : GoodIn wsL_law wsX3_remove := goodIn_r _ [136, 137, 138, 139, 2, 140, 13, 67, 92, 93, 94, 95, 68, 69, 70, 71, 72, 73, 74, 75, 76, 77, 15, 78, 79, 80, 81, 82, 30, 83, 84, 85, 86, 87, 88, 89, 90, 91, 29, 63, 64, 65, 66, 141, 142, 143, 144, 145, 146, 147, 148, 58, 149, 150, 151, 152, 100, 101, 102, 103, 384, 385, 386, 387, 399, 400, 401] (by decide +kernel) (by decide +kernel)
set_option maxRecDepth 20000 in
theorem gL_law_X3_remove : GoodIn wsL_law (wsV RL 18 RX3 yX3_remove wsX3_remove) := goodIn_app (goodIn_of _ (by decide +kernel)) ggL_law_X3_remove
set_option maxRecDepth 20000 in
theorem ggL_law_X4_remove : GoodIn wsL_law wsX4_remove := goodIn_r _ [156, 53, 45, 109, 110, 111, 5, 112, 113, 114, 115, 116, 117, 118, 119, 120, 121, 122, 123, 124, 125, 126, 127, 128, 129, 130, 131, 132, 47, 46, 388, 389, 390, 391, 392, 393, 394, 395, 396, 397, 398] (by decide +kernel) (by decide +kernel)
set_option maxRecDepth 20000 in
theorem gL_law_X4_remove : GoodIn wsL_law (wsV RL 22 RX4 yX4_remove wsX4_remove) := goodIn_app (goodIn_of _ (by decide +kernel)) ggL_law_X4_remove
set_option maxRecDepth 20000 in
theorem ggL_law_X3_removeAll : GoodIn wsL_law wsX3_removeAll := goodIn_r _ [160, 161, 162, 2, 163, 137, 138, 139, 140, 13, 67, 92, 93, 94, 95, 68, 69, 70, 71, 72, 73, 74, 75, 76, 77, 15, 78, 79, 80, 81, 82, 30, 83, 84, 85, 86, 87, 88, 89, 90, 91, 29, 63, 64, 65, 66, 141, 142, 143, 144, 145, 146, 147, 148, 58, 149, 150, 151, 152, 100, 101, 102, 103, 384, 385, 386, 387, 399, 400, 401] (by decide +kernel) (by decide +kernel)
set_option maxRecDepth 20000 in
theorem gL_law_X3_removeAll : GoodIn wsL_law (wsV RL 23 RX3 yX3_removeAll wsX3_removeAll) := goodIn_app (goodIn_of _ (by decide +kernel)) ggL_law_X3_removeAll
set_option maxRecDepth 20000 in
theorem ggL_law_X4_removeAll : GoodIn wsL_law wsX4_removeAll := goodIn_r _ [167, 53, 168, 169, 5, 170, 171, 172, 173, 174, 124, 125, 126, 127, 45, 175, 154, 155, 156, 109, 110, 111, 112, 113, 114, 115, 116, 117, 118, 119, 120, 121, 122, 123, 128, 129, 130, 131, 132, 47, 46, 388, 389, 390, 391, 392, 393, 394, 395, 396, 397, 398] (by decide +kernel) (by decide +kernel)
set_option maxRecDepth 20000 in
theorem gL_law_X4_removeAll : GoodIn wsL_law (wsV RL 27 RX4 yX4_removeAll wsX4_removeAll) := goodIn_app (goodIn_of _ (by decide +kernel)) ggL_law_X4_removeAll
set_option maxRecDepth 20000 in
theorem ggL_law_X3_holds : GoodIn wsL_law wsX3_holds := goodIn_r _ [179, 59, 60, 61, 2, 62, 63, 64, 65, 66, 13, 67, 68, 69, 70, 71, 72, 73, 74, 75, 76, 77, 15, 78, 79, 80, 81, 82, 30, 83, 84, 85, 86, 87, 88, 89, 90, 91, 29, 92, 93, 94, 95, 384, 385, 386, 387, 399, 400, 401] (by decide +kernel) (by decide +kernel)
set_option maxRecDepth 20000 in
theorem gL_law_X3_holds : GoodIn wsL_law (wsV RL 28 RX3 yX3_holds wsX3_holds) := goodIn_app (goodIn_of _ (by decide +kernel)) ggL_law_X3_holds
set_option maxRecDepth 20000 in
theorem ggL_law_X4_holds : GoodIn wsL_law wsX4_holds := goodIn_r _ [112, 53, 113, 114, 115, 5, 116, 117, 118, 119, 120, 121, 122, 123, 124, 125, 126, 127, 45, 388, 389, 390, 391, 392, 393, 394, 395, 396, 397, 398] (by decide +kernel) (by decide +kernel)
set_option maxRecDepth 20000 in
theorem gL_law_X4_holds : GoodIn wsL_law (wsV RL 31 RX4 yX4_holds wsX4_holds) := goodIn_app (goodIn_of _ (by decide +kernel)) ggL_law_X4_holds
set_option maxRecDepth 20000 in
theorem ggL_law_X3_open : GoodIn wsL_law wsX3_open := goodIn_r _ [184, 17, 67, 58, 161, 162, 2, 163, 92, 93, 94, 95, 13, 68, 69, 70, 71, 72, 73, 74, 75, 76, 77, 15, 78, 79, 80, 81, 82, 30, 83, 84, 85, 86, 87, 88, 89, 90, 91, 29, 63, 64, 65, 66, 185, 186, 187, 19, 188, 189, 190, 191, 192, 193, 194, 384, 385, 386, 387, 402, 403, 404, 405, 406, 407, 399, 400, 401] (by decide +kernel) (by decide +kernel)
set_option maxRecDepth 20000 in
theorem gL_law_X3_open : GoodIn wsL_law (wsV RL 32 RX3 yX3_open wsX3_open) := goodIn_app (goodIn_of _ (by decide +kernel)) ggL_law_X3_open
set_option maxRecDepth 20000 in
theorem ggL_law_X4_open : GoodIn wsL_law wsX4_open := goodIn_r _ [198, 46, 47, 48, 49, 50, 168, 169, 5, 170, 388, 389, 390, 391, 392, 393, 394, 395, 396, 397, 398] (by decide +kernel) (by decide +kernel)
set_option maxRecDepth 20000 in
theorem gL_law_X4_open : GoodIn wsL_law (wsV RL 35 RX4 yX4_open wsX4_open) := goodIn_app (goodIn_of _ (by decide +kernel)) ggL_law_X4_open
set_option maxRecDepth 20000 in
theorem ggL_law_X3_next : GoodIn wsL_law wsX3_next := goodIn_r _ [202, 17, 203, 204, 205, 2, 206, 207, 208, 209, 210, 58, 211, 212, 213, 19, 214, 190, 191, 194, 384, 385, 386, 387, 402, 403, 404, 405, 406, 407] (by decide +kernel) (by decide +kernel)
set_option maxRecDepth 20000 in
theorem gL_law_X3_next : GoodIn wsL_law (wsV RL 36 RX3 yX3_next wsX3_next) := goodIn_app (goodIn_of _ (by decide +kernel)) ggL_law_X3_next
set_option maxRecDepth 20000 in
theorem ggL_law_X4_next : GoodIn wsL_law wsX4_next := goodIn_r _ [218, 219, 220, 221, 5, 222, 47, 48, 50, 53, 49, 223, 224, 225, 226, 46, 227, 228, 229, 171, 172, 173, 174, 124, 125, 126, 127, 45, 117, 118, 119, 120, 121, 122, 123, 388, 389, 390, 391, 392, 393, 394, 395, 396, 397, 398] (by decide +kernel) (by decide +kernel)
set_option maxRecDepth 20000 in
theorem gL_law_X4_next : GoodIn wsL_law (wsV RL 40 RX4 yX4_next wsX4_next) := goodIn_app (goodIn_of _ (by decide +kernel)) ggL_law_X4_next
set_option maxRecDepth 20000 in
theorem ggL_law_X3_seek : GoodIn wsL_law wsX3_seek := goodIn_r _ [233, 17, 13, 203, 204, 205, 2, 206, 207, 208, 209, 210, 58, 234, 84, 85, 15, 86, 87, 88, 89, 90, 91, 29, 235, 236, 237, 19, 238, 190, 239, 240, 241, 242, 191, 243, 244, 245, 211, 212, 213, 214, 194, 384, 385, 386, 387, 402, 403, 404, 405, 406, 407, 399, 400, 401] (by decide +kernel) (by decide +kernel)
set_option maxRecDepth 20000 in
theorem gL_law_X3_seek : GoodIn wsL_law (wsV RL 41 RX3 yX3_seek wsX3_seek) := goodIn_app (goodIn_of _ (by decide +kernel)) ggL_law_X3_seek
set_option maxRecDepth 20000 in
theorem ggL_law_X4_seek : GoodIn wsL_law wsX4_seek := goodIn_r _ [249, 48, 223, 224, 225, 5, 226, 46, 227, 228, 229, 219, 220, 221, 222, 47, 50, 53, 49, 171, 172, 173, 174, 124, 125, 126, 127, 45, 117, 118, 119, 120, 121, 122, 123, 388, 389, 390, 391, 392, 393, 394, 395, 396, 397, 398] (by decide +kernel) (by decide +kernel)
set_option maxRecDepth 20000 in
theorem gL_law_X4_seek : GoodIn wsL_law (wsV RL 44 RX4 yX4_seek wsX4_seek) := goodIn_app (goodIn_of _ (by decide +kernel)) ggL_law_X4_seek
set_option maxRecDepth 20000 in
theorem ggL_law_X3_part : GoodIn wsL_law wsX3_part := goodIn_r _ [253, 17, 13, 203, 204, 205, 2, 206, 207, 208, 209, 210, 58, 141, 142, 143, 15, 144, 87, 29, 30, 384, 385, 386, 387, 402, 403, 404, 405, 406, 407, 399, 400, 401] (by decide +kernel) (by decide +kernel)
set_option maxRecDepth 20000 in
theorem gL_law_X3_part : GoodIn wsL_law (wsV RL 45 RX3 yX3_part wsX3_part) := goodIn_app (goodIn_of _ (by decide +kernel)) ggL_law_X3_part
set_option maxRecDepth 20000 in
theorem ggL_law_X4_part : GoodIn wsL_law wsX4_part := goodIn_r _ [257, 47, 50, 53, 48, 223, 224, 225, 5, 226, 46, 227, 228, 229, 124, 125, 126, 127, 45, 388, 389, 390, 391, 392, 393, 394, 395, 396, 397, 398] (by decide +kernel) (by decide +kernel)
set_option maxRecDepth 20000 in
theorem gL_law_X4_part : GoodIn wsL_law (wsV RL 49 RX4 yX4_part wsX4_part) := goodIn_app (goodIn_of _ (by decide +kernel)) ggL_law_X4_part
set_option maxRecDepth 20000 in
theorem ggL_law_X3_close : GoodIn wsL_law wsX3_close := goodIn_r _ [261, 17, 203, 204, 205, 2, 206, 384, 385, 386, 387, 402, 403, 404, 405, 406, 407] (by decide +kernel) (by decide +kernel)
set_option maxRecDepth 20000 in
theorem gL_law_X3_close : GoodIn wsL_law (wsV RL 50 RX3 yX3_close wsX3_close) := goodIn_app (goodIn_of _ (by decide +kernel)) ggL_law_X3_close
set_option maxRecDepth 20000 in
theorem ggL_law_X4_close : GoodIn wsL_law wsX4_close := goodIn_r _ [265, 46, 47, 223, 224, 225, 5, 226, 388, 389, 390, 391, 392, 393, 394, 395, 396, 397, 398] (by decide +kernel) (by decide +kernel)
set_option maxRecDepth 20000 in
theorem gL_law_X4_close : GoodIn wsL_law (wsV RL 54 RX4 yX4_close wsX4_close) := goodIn_app (goodIn_of _ (by decide +kernel)) ggL_law_X4_close
set_option maxRecDepth 20000 in
theorem ggL_law_X3_many : GoodIn wsL_law wsX3_many := goodIn_r _ [269, 161, 162, 2, 163, 59, 60, 61, 62, 63, 64, 65, 66, 13, 67, 68, 69, 70, 71, 72, 73, 74, 75, 76, 77, 15, 78, 79, 80, 81, 82, 30, 83, 84, 85, 86, 87, 88, 89, 90, 91, 29, 92, 93, 94, 95, 384, 385, 386, 387, 399, 400, 401] (by decide +kernel) (by decide +kernel)
set_option maxRecDepth 20000 in
theorem gL_law_X3_many : GoodIn wsL_law (wsV RL 55 RX3 yX3_many wsX3_many) := goodIn_app (goodIn_of _ (by decide +kernel)) ggL_law_X3_many
set_option maxRecDepth 20000 in
theorem ggL_law_X4_many : GoodIn wsL_law wsX4_many := goodIn_r _ [273, 53, 168, 169, 5, 170, 171, 172, 173, 174, 124, 125, 126, 127, 45, 388, 389, 390, 391, 392, 393, 394, 395, 396, 397, 398] (by decide +kernel) (by decide +kernel)
set_option maxRecDepth 20000 in
theorem gL_law_X4_many : GoodIn wsL_law (wsV RL 58 RX4 yX4_many wsX4_many) := goodIn_app (goodIn_of _ (by decide +kernel)) ggL_law_X4_many
set_option maxRecDepth 20000 in
theorem ggL_law_X3_at : GoodIn wsL_law wsX3_at := goodIn_r _ [277, 13, 278, 279, 2, 280, 141, 142, 143, 15, 144, 87, 29, 30, 384, 385, 386, 387, 399, 400, 401] (by decide +kernel) (by decide +kernel)
set_option maxRecDepth 20000 in
theorem gL_law_X3_at : GoodIn wsL_law (wsV RL 59 RX3 yX3_at wsX3_at) := goodIn_app (goodIn_of _ (by decide +kernel)) ggL_law_X3_at
set_option maxRecDepth 20000 in
theorem ggL_law_X4_at : GoodIn wsL_law wsX4_at := goodIn_r _ [284, 53, 124, 125, 126, 5, 127, 45, 388, 389, 390, 391, 392, 393, 394, 395, 396, 397, 398] (by decide +kernel) (by decide +kernel)
set_option maxRecDepth 20000 in
theorem gL_law_X4_at : GoodIn wsL_law (wsV RL 62 RX4 yX4_at wsX4_at) := goodIn_app (goodIn_of _ (by decide +kernel)) ggL_law_X4_at
set_option maxRecDepth 20000 in
theorem ggL_law_X3_before : GoodIn wsL_law wsX3_before := goodIn_r _ [288, 13, 278, 279, 2, 280, 75, 76, 77, 15, 78, 79, 80, 81, 82, 30, 83, 84, 85, 86, 87, 88, 89, 90, 91, 29, 384, 385, 386, 387, 399, 400, 401] (by decide +kernel) (by decide +kernel)
set_option maxRecDepth 20000 in
theorem gL_law_X3_before : GoodIn wsL_law (wsV RL 63 RX3 yX3_before wsX3_before) := goodIn_app (goodIn_of _ (by decide +kernel)) ggL_law_X3_before
set_option maxRecDepth 20000 in
theorem ggL_law_X4_before : GoodIn wsL_law wsX4_before := goodIn_r _ [292, 113, 114, 115, 5, 116, 53, 117, 118, 119, 120, 121, 122, 123, 124, 125, 126, 127, 45, 388, 389, 390, 391, 392, 393, 394, 395, 396, 397, 398] (by decide +kernel) (by decide +kernel)
set_option maxRecDepth 20000 in
theorem gL_law_X4_before : GoodIn wsL_law (wsV RL 66 RX4 yX4_before wsX4_before) := goodIn_app (goodIn_of _ (by decide +kernel)) ggL_law_X4_before
set_option maxRecDepth 20000 in
theorem ggL_law_X3_different : GoodIn wsL_law wsX3_different := goodIn_r _ [296, 13, 278, 279, 2, 280, 297, 298, 299, 15, 300, 87, 29, 384, 385, 386, 387, 399, 400, 401] (by decide +kernel) (by decide +kernel)
set_option maxRecDepth 20000 in
theorem gL_law_X3_different : GoodIn wsL_law (wsV RL 67 RX3 yX3_different wsX3_different) := goodIn_app (goodIn_of _ (by decide +kernel)) ggL_law_X3_different
set_option maxRecDepth 20000 in
theorem ggL_law_X4_different : GoodIn wsL_law wsX4_different := goodIn_r _ [304, 53, 124, 125, 126, 5, 127, 45, 388, 389, 390, 391, 392, 393, 394, 395, 396, 397, 398] (by decide +kernel) (by decide +kernel)
set_option maxRecDepth 20000 in
theorem gL_law_X4_different : GoodIn wsL_law (wsV RL 70 RX4 yX4_different wsX4_different) := goodIn_app (goodIn_of _ (by decide +kernel)) ggL_law_X4_different
set_option maxRecDepth 20000 in
theorem ggL_law_X3_chains : GoodIn wsL_law wsX3_chains := goodIn_r _ [308, 13, 63, 64, 65, 2, 66, 67, 68, 69, 70, 71, 72, 73, 74, 75, 76, 77, 15, 78, 79, 80, 81, 82, 30, 83, 84, 85, 86, 87, 88, 89, 90, 91, 29, 92, 93, 94, 95, 141, 142, 143, 144, 59, 60, 61, 62, 384, 385, 386, 387, 399, 400, 401] (by decide +kernel) (by decide +kernel)
set_option maxRecDepth 20000 in
theorem gL_law_X3_chains : GoodIn wsL_law (wsV RL 71 RX3 yX3_chains wsX3_chains) := goodIn_app (goodIn_of _ (by decide +kernel)) ggL_law_X3_chains
set_option maxRecDepth 20000 in
theorem ggL_law_X4_chains : GoodIn wsL_law wsX4_chains := goodIn_r _ [312, 53, 124, 125, 126, 5, 127, 45, 388, 389, 390, 391, 392, 393, 394, 395, 396, 397, 398] (by decide +kernel) (by decide +kernel)
set_option maxRecDepth 20000 in
theorem gL_law_X4_chains : GoodIn wsL_law (wsV RL 74 RX4 yX4_chains wsX4_chains) := goodIn_app (goodIn_of _ (by decide +kernel)) ggL_law_X4_chains
set_option maxRecDepth 20000 in
theorem ggL_law_X3_far : GoodIn wsL_law wsX3_far := goodIn_r _ [316, 23, 317, 318, 319, 2, 320, 92, 93, 94, 95, 13, 67, 68, 69, 70, 71, 72, 73, 74, 75, 76, 77, 15, 78, 79, 80, 81, 82, 30, 83, 84, 85, 86, 87, 88, 89, 90, 91, 29, 63, 64, 65, 66, 321, 322, 323, 22, 324, 325, 326, 240, 241, 242, 40, 59, 60, 61, 62, 327, 328, 329, 330, 331, 332, 333, 334, 335, 336, 337, 338, 37, 38, 339, 340, 341, 342, 141, 142, 143, 144, 343, 344, 345, 346, 384, 385, 386, 387, 408, 409, 410, 411, 399, 400, 401] (by decide +kernel) (by decide +kernel)
set_option maxRecDepth 20000 in
theorem gL_law_X3_far : GoodIn wsL_law (wsV RL 75 RX3 yX3_far wsX3_far) := goodIn_app (goodIn_of _ (by decide +kernel)) ggL_law_X3_far
set_option maxRecDepth 20000 in
theorem ggL_law_X4_far : GoodIn wsL_law wsX4_far := goodIn_r _ [350, 52, 351, 352, 353, 5, 354, 51, 355, 53, 124, 125, 126, 127, 45, 356, 357, 358, 359, 388, 389, 390, 391, 392, 393, 394, 395, 396, 397, 398] (by decide +kernel) (by decide +kernel)
set_option maxRecDepth 20000 in
theorem gL_law_X4_far : GoodIn wsL_law (wsV RL 78 RX4 yX4_far wsX4_far) := goodIn_app (goodIn_of _ (by decide +kernel)) ggL_law_X4_far
set_option maxRecDepth 20000 in
theorem ggL_law_X3_reached : GoodIn wsL_law wsX3_reached := goodIn_r _ [363, 23, 317, 318, 319, 2, 320, 92, 93, 94, 95, 13, 67, 68, 69, 70, 71, 72, 73, 74, 75, 76, 77, 15, 78, 79, 80, 81, 82, 30, 83, 84, 85, 86, 87, 88, 89, 90, 91, 29, 63, 64, 65, 66, 321, 322, 323, 22, 324, 325, 326, 240, 241, 242, 40, 59, 60, 61, 62, 327, 328, 329, 330, 331, 332, 333, 334, 335, 336, 337, 338, 37, 38, 339, 340, 341, 342, 141, 142, 143, 144, 384, 385, 386, 387, 408, 409, 410, 411, 399, 400, 401] (by decide +kernel) (by decide +kernel)
set_option maxRecDepth 20000 in
theorem gL_law_X3_reached : GoodIn wsL_law (wsV RL 79 RX3 yX3_reached wsX3_reached) := goodIn_app (goodIn_of _ (by decide +kernel)) ggL_law_X3_reached
set_option maxRecDepth 20000 in
theorem ggL_law_X4_reached : GoodIn wsL_law wsX4_reached := goodIn_r _ [367, 355, 351, 352, 353, 5, 354, 51, 52, 53, 124, 125, 126, 127, 45, 356, 357, 358, 359, 388, 389, 390, 391, 392, 393, 394, 395, 396, 397, 398] (by decide +kernel) (by decide +kernel)
set_option maxRecDepth 20000 in
theorem gL_law_X4_reached : GoodIn wsL_law (wsV RL 82 RX4 yX4_reached wsX4_reached) := goodIn_app (goodIn_of _ (by decide +kernel)) ggL_law_X4_reached
set_option maxRecDepth 20000 in
theorem ggL_law_X3_size : GoodIn wsL_law wsX3_size := goodIn_r _ [371, 13, 384, 385, 386, 387, 399, 400, 401] (by decide +kernel) (by decide +kernel)
set_option maxRecDepth 20000 in
theorem gL_law_X3_size : GoodIn wsL_law (wsV RL 83 RX3 yX3_size wsX3_size) := goodIn_app (goodIn_of _ (by decide +kernel)) ggL_law_X3_size
set_option maxRecDepth 20000 in
theorem ggL_law_X4_size : GoodIn wsL_law wsX4_size := goodIn_r _ [375, 53, 388, 389, 390, 391, 392, 393, 394, 395, 396, 397, 398] (by decide +kernel) (by decide +kernel)
set_option maxRecDepth 20000 in
theorem gL_law_X4_size : GoodIn wsL_law (wsV RL 87 RX4 yX4_size wsX4_size) := goodIn_app (goodIn_of _ (by decide +kernel)) ggL_law_X4_size
set_option maxRecDepth 20000 in
theorem ggL_law_X3_changes : GoodIn wsL_law wsX3_changes := goodIn_r _ [379, 58, 384, 385, 386, 387] (by decide +kernel) (by decide +kernel)
set_option maxRecDepth 20000 in
theorem gL_law_X3_changes : GoodIn wsL_law (wsV RL 88 RX3 yX3_changes wsX3_changes) := goodIn_app (goodIn_of _ (by decide +kernel)) ggL_law_X3_changes
set_option maxRecDepth 20000 in
theorem ggL_law_X4_changes : GoodIn wsL_law wsX4_changes := goodIn_r _ [383, 132, 388, 389, 390, 391, 392, 393, 394, 395, 396, 397, 398] (by decide +kernel) (by decide +kernel)
set_option maxRecDepth 20000 in
theorem gL_law_X4_changes : GoodIn wsL_law (wsV RL 91 RX4 yX4_changes wsX4_changes) := goodIn_app (goodIn_of _ (by decide +kernel)) ggL_law_X4_changes
