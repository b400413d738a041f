theorem dX0_init_0 : decode cX0_init 0 = .ok (.aload_n 0, 1) := by decide +kernel
theorem dX0_init_1 : decode cX0_init 1 = .ok (.invokespecial 1, 3) := by decide +kernel
theorem dX0_init_4 : decode cX0_init 4 = .ok (.return_, 1) := by decide +kernel
theorem dX0_begin_0 : decode cX0_begin 0 = .ok (.aload_n 0, 1) := by decide +kernel
theorem dX0_begin_1 : decode cX0_begin 1 = .ok (.iload_n 1, 1) := by decide +kernel
theorem dX0_begin_2 : decode cX0_begin 2 = .ok (.putfield 7, 3) := by decide +kernel
theorem dX0_begin_5 : decode cX0_begin 5 = .ok (.aload_n 0, 1) := by decide +kernel
theorem dX0_begin_6 : decode cX0_begin 6 = .ok (.iload_n 2, 1) := by decide +kernel
theorem dX0_begin_7 : decode cX0_begin 7 = .ok (.putfield 13, 3) := by decide +kernel
theorem dX0_begin_10 : decode cX0_begin 10 = .ok (.aload_n 0, 1) := by decide +kernel
theorem dX0_begin_11 : decode cX0_begin 11 = .ok (.iload_n 3, 1) := by decide +kernel
theorem dX0_begin_12 : decode cX0_begin 12 = .ok (.putfield 16, 3) := by decide +kernel
theorem dX0_begin_15 : decode cX0_begin 15 = .ok (.aload_n 0, 1) := by decide +kernel
theorem dX0_begin_16 : decode cX0_begin 16 = .ok (.iload 4, 2) := by decide +kernel
theorem dX0_begin_18 : decode cX0_begin 18 = .ok (.putfield 19, 3) := by decide +kernel
theorem dX0_begin_21 : decode cX0_begin 21 = .ok (.aload_n 0, 1) := by decide +kernel
theorem dX0_begin_22 : decode cX0_begin 22 = .ok (.iconst 1, 1) := by decide +kernel
theorem dX0_begin_23 : decode cX0_begin 23 = .ok (.putfield 22, 3) := by decide +kernel
theorem dX0_begin_26 : decode cX0_begin 26 = .ok (.aload_n 0, 1) := by decide +kernel
theorem dX0_begin_27 : decode cX0_begin 27 = .ok (.iconst 0, 1) := by decide +kernel
theorem dX0_begin_28 : decode cX0_begin 28 = .ok (.putfield 26, 3) := by decide +kernel
theorem dX0_begin_31 : decode cX0_begin 31 = .ok (.return_, 1) := by decide +kernel
theorem dX0_skipTo_0 : decode cX0_skipTo 0 = .ok (.aload_n 0, 1) := by decide +kernel
theorem dX0_skipTo_1 : decode cX0_skipTo 1 = .ok (.aload_n 0, 1) := by decide +kernel
theorem dX0_skipTo_2 : decode cX0_skipTo 2 = .ok (.getfield 13, 3) := by decide +kernel
theorem dX0_skipTo_5 : decode cX0_skipTo 5 = .ok (.iload_n 1, 1) := by decide +kernel
theorem dX0_skipTo_6 : decode cX0_skipTo 6 = .ok (.invokestatic 29, 3) := by decide +kernel
theorem dX0_skipTo_9 : decode cX0_skipTo 9 = .ok (.aload_n 0, 1) := by decide +kernel
theorem dX0_skipTo_10 : decode cX0_skipTo 10 = .ok (.getfield 16, 3) := by decide +kernel
theorem dX0_skipTo_13 : decode cX0_skipTo 13 = .ok (.invokestatic 35, 3) := by decide +kernel
theorem dX0_skipTo_16 : decode cX0_skipTo 16 = .ok (.putfield 13, 3) := by decide +kernel
theorem dX0_skipTo_19 : decode cX0_skipTo 19 = .ok (.return_, 1) := by decide +kernel
theorem dX0_goOn_0 : decode cX0_goOn 0 = .ok (.aload_n 0, 1) := by decide +kernel
theorem dX0_goOn_1 : decode cX0_goOn 1 = .ok (.aload_n 0, 1) := by decide +kernel
theorem dX0_goOn_2 : decode cX0_goOn 2 = .ok (.getfield 13, 3) := by decide +kernel
theorem dX0_goOn_5 : decode cX0_goOn 5 = .ok (.aload_n 0, 1) := by decide +kernel
theorem dX0_goOn_6 : decode cX0_goOn 6 = .ok (.getfield 16, 3) := by decide +kernel
theorem dX0_goOn_9 : decode cX0_goOn 9 = .ok (.if_icmp .ge 7, 3) := by decide +kernel
theorem dX0_goOn_12 : decode cX0_goOn 12 = .ok (.iconst 1, 1) := by decide +kernel
theorem dX0_goOn_13 : decode cX0_goOn 13 = .ok (.goto 4, 3) := by decide +kernel
theorem dX0_goOn_16 : decode cX0_goOn 16 = .ok (.iconst 0, 1) := by decide +kernel
theorem dX0_goOn_17 : decode cX0_goOn 17 = .ok (.putfield 26, 3) := by decide +kernel
theorem dX0_goOn_20 : decode cX0_goOn 20 = .ok (.aload_n 0, 1) := by decide +kernel
theorem dX0_goOn_21 : decode cX0_goOn 21 = .ok (.getfield 26, 3) := by decide +kernel
theorem dX0_goOn_24 : decode cX0_goOn 24 = .ok (.ifCond .ne 5, 3) := by decide +kernel
theorem dX0_goOn_27 : decode cX0_goOn 27 = .ok (.iconst 0, 1) := by decide +kernel
theorem dX0_goOn_28 : decode cX0_goOn 28 = .ok (.ireturn, 1) := by decide +kernel
theorem dX0_goOn_29 : decode cX0_goOn 29 = .ok (.aload_n 0, 1) := by decide +kernel
theorem dX0_goOn_30 : decode cX0_goOn 30 = .ok (.dup, 1) := by decide +kernel
theorem dX0_goOn_31 : decode cX0_goOn 31 = .ok (.getfield 13, 3) := by decide +kernel
theorem dX0_goOn_34 : decode cX0_goOn 34 = .ok (.iconst 1, 1) := by decide +kernel
theorem dX0_goOn_35 : decode cX0_goOn 35 = .ok (.iadd, 1) := by decide +kernel
theorem dX0_goOn_36 : decode cX0_goOn 36 = .ok (.putfield 13, 3) := by decide +kernel
theorem dX0_goOn_39 : decode cX0_goOn 39 = .ok (.iconst 1, 1) := by decide +kernel
theorem dX0_goOn_40 : decode cX0_goOn 40 = .ok (.ireturn, 1) := by decide +kernel
theorem dX1_init_0 : decode cX1_init 0 = .ok (.aload_n 0, 1) := by decide +kernel
theorem dX1_init_1 : decode cX1_init 1 = .ok (.invokespecial 3, 3) := by decide +kernel
theorem dX1_init_4 : decode cX1_init 4 = .ok (.aload_n 0, 1) := by decide +kernel
theorem dX1_init_5 : decode cX1_init 5 = .ok (.sipush 2100, 3) := by decide +kernel
theorem dX1_init_8 : decode cX1_init 8 = .ok (.newarray .int, 2) := by decide +kernel
theorem dX1_init_10 : decode cX1_init 10 = .ok (.putfield 9, 3) := by decide +kernel
theorem dX1_init_13 : decode cX1_init 13 = .ok (.aload_n 0, 1) := by decide +kernel
theorem dX1_init_14 : decode cX1_init 14 = .ok (.iload_n 1, 1) := by decide +kernel
theorem dX1_init_15 : decode cX1_init 15 = .ok (.putfield 15, 3) := by decide +kernel
theorem dX1_init_18 : decode cX1_init 18 = .ok (.return_, 1) := by decide +kernel
theorem dX1_partAt_0 : decode cX1_partAt 0 = .ok (.iload_n 1, 1) := by decide +kernel
theorem dX1_partAt_1 : decode cX1_partAt 1 = .ok (.ifCond .lt 20, 3) := by decide +kernel
theorem dX1_partAt_4 : decode cX1_partAt 4 = .ok (.iload_n 1, 1) := by decide +kernel
theorem dX1_partAt_5 : decode cX1_partAt 5 = .ok (.aload_n 0, 1) := by decide +kernel
theorem dX1_partAt_6 : decode cX1_partAt 6 = .ok (.getfield 19, 3) := by decide +kernel
theorem dX1_partAt_9 : decode cX1_partAt 9 = .ok (.if_icmp .ge 12, 3) := by decide +kernel
theorem dX1_partAt_12 : decode cX1_partAt 12 = .ok (.iload_n 2, 1) := by decide +kernel
theorem dX1_partAt_13 : decode cX1_partAt 13 = .ok (.ifCond .lt 8, 3) := by decide +kernel
theorem dX1_partAt_16 : decode cX1_partAt 16 = .ok (.iload_n 2, 1) := by decide +kernel
theorem dX1_partAt_17 : decode cX1_partAt 17 = .ok (.iconst 3, 1) := by decide +kernel
theorem dX1_partAt_18 : decode cX1_partAt 18 = .ok (.if_icmp .lt 5, 3) := by decide +kernel
theorem dX1_partAt_21 : decode cX1_partAt 21 = .ok (.iconst 0, 1) := by decide +kernel
theorem dX1_partAt_22 : decode cX1_partAt 22 = .ok (.ireturn, 1) := by decide +kernel
theorem dX1_partAt_23 : decode cX1_partAt 23 = .ok (.aload_n 0, 1) := by decide +kernel
theorem dX1_partAt_24 : decode cX1_partAt 24 = .ok (.getfield 9, 3) := by decide +kernel
theorem dX1_partAt_27 : decode cX1_partAt 27 = .ok (.iconst 3, 1) := by decide +kernel
theorem dX1_partAt_28 : decode cX1_partAt 28 = .ok (.iload_n 1, 1) := by decide +kernel
theorem dX1_partAt_29 : decode cX1_partAt 29 = .ok (.imul, 1) := by decide +kernel
theorem dX1_partAt_30 : decode cX1_partAt 30 = .ok (.iload_n 2, 1) := by decide +kernel
theorem dX1_partAt_31 : decode cX1_partAt 31 = .ok (.aload_n 0, 1) := by decide +kernel
theorem dX1_partAt_32 : decode cX1_partAt 32 = .ok (.getfield 15, 3) := by decide +kernel
theorem dX1_partAt_35 : decode cX1_partAt 35 = .ok (.isub, 1) := by decide +kernel
theorem dX1_partAt_36 : decode cX1_partAt 36 = .ok (.iconst 3, 1) := by decide +kernel
theorem dX1_partAt_37 : decode cX1_partAt 37 = .ok (.iadd, 1) := by decide +kernel
theorem dX1_partAt_38 : decode cX1_partAt 38 = .ok (.iconst 3, 1) := by decide +kernel
theorem dX1_partAt_39 : decode cX1_partAt 39 = .ok (.irem, 1) := by decide +kernel
theorem dX1_partAt_40 : decode cX1_partAt 40 = .ok (.iadd, 1) := by decide +kernel
theorem dX1_partAt_41 : decode cX1_partAt 41 = .ok (.iaload, 1) := by decide +kernel
theorem dX1_partAt_42 : decode cX1_partAt 42 = .ok (.ireturn, 1) := by decide +kernel
set_option maxRecDepth 20000 in
theorem ggX1_placeOf_X1_turned : GoodIn wsX1_placeOf wsX1_turned := goodIn_r _ [5, 6, 17, 18, 19] (by decide +kernel) (by decide +kernel)
set_option maxRecDepth 20000 in
theorem gX1_placeOf_X1_turned : GoodIn wsX1_placeOf (wsV RX1 22 RX1 yX1_turned wsX1_turned) := goodIn_app (goodIn_of _ (by decide +kernel)) ggX1_placeOf_X1_turned
set_option maxRecDepth 20000 in
theorem ggX1_placeOf_X1_placeTold : GoodIn wsX1_placeOf wsX1_placeTold := goodIn_r _ [10, 11, 12, 13, 14, 4, 15, 16, 17, 18, 19] (by decide +kernel) (by decide +kernel)
set_option maxRecDepth 20000 in
theorem gX1_placeOf_X1_placeTold : GoodIn wsX1_placeOf (wsV RX1 26 RX1 yX1_placeTold wsX1_placeTold) := goodIn_app (goodIn_of _ (by decide +kernel)) ggX1_placeOf_X1_placeTold
theorem dX1_placeOf_0 : decode cX1_placeOf 0 = .ok (.aload_n 0, 1) := by decide +kernel
theorem dX1_placeOf_1 : decode cX1_placeOf 1 = .ok (.iload_n 1, 1) := by decide +kernel
theorem dX1_placeOf_2 : decode cX1_placeOf 2 = .ok (.aload_n 0, 1) := by decide +kernel
theorem dX1_placeOf_3 : decode cX1_placeOf 3 = .ok (.iconst 0, 1) := by decide +kernel
theorem dX1_placeOf_4 : decode cX1_placeOf 4 = .ok (.iload_n 2, 1) := by decide +kernel
theorem dX1_placeOf_5 : decode cX1_placeOf 5 = .ok (.iload_n 3, 1) := by decide +kernel
theorem dX1_placeOf_6 : decode cX1_placeOf 6 = .ok (.iload 4, 2) := by decide +kernel
theorem dX1_placeOf_8 : decode cX1_placeOf 8 = .ok (.invokevirtual 22, 3) := by decide +kernel
theorem dX1_placeOf_11 : decode cX1_placeOf 11 = .ok (.aload_n 0, 1) := by decide +kernel
theorem dX1_placeOf_12 : decode cX1_placeOf 12 = .ok (.iconst 1, 1) := by decide +kernel
theorem dX1_placeOf_13 : decode cX1_placeOf 13 = .ok (.iload_n 2, 1) := by decide +kernel
theorem dX1_placeOf_14 : decode cX1_placeOf 14 = .ok (.iload_n 3, 1) := by decide +kernel
theorem dX1_placeOf_15 : decode cX1_placeOf 15 = .ok (.iload 4, 2) := by decide +kernel
theorem dX1_placeOf_17 : decode cX1_placeOf 17 = .ok (.invokevirtual 22, 3) := by decide +kernel
theorem dX1_placeOf_20 : decode cX1_placeOf 20 = .ok (.aload_n 0, 1) := by decide +kernel
theorem dX1_placeOf_21 : decode cX1_placeOf 21 = .ok (.iconst 2, 1) := by decide +kernel
theorem dX1_placeOf_22 : decode cX1_placeOf 22 = .ok (.iload_n 2, 1) := by decide +kernel
theorem dX1_placeOf_23 : decode cX1_placeOf 23 = .ok (.iload_n 3, 1) := by decide +kernel
theorem dX1_placeOf_24 : decode cX1_placeOf 24 = .ok (.iload 4, 2) := by decide +kernel
theorem dX1_placeOf_26 : decode cX1_placeOf 26 = .ok (.invokevirtual 22, 3) := by decide +kernel
theorem dX1_placeOf_29 : decode cX1_placeOf 29 = .ok (.iload 5, 2) := by decide +kernel
theorem dX1_placeOf_31 : decode cX1_placeOf 31 = .ok (.invokevirtual 26, 3) := by decide +kernel
theorem dX1_placeOf_34 : decode cX1_placeOf 34 = .ok (.ireturn, 1) := by decide +kernel
set_option maxRecDepth 20000 in
theorem ggX1_placeTold_X1_compareAt : GoodIn wsX1_placeTold wsX1_compareAt := goodIn_r _ [6, 7, 8, 9, 10] (by decide +kernel) (by decide +kernel)
set_option maxRecDepth 20000 in
theorem gX1_placeTold_X1_compareAt : GoodIn wsX1_placeTold (wsV RX1 30 RX1 yX1_compareAt wsX1_compareAt) := goodIn_app (goodIn_of _ (by decide +kernel)) ggX1_placeTold_X1_compareAt
theorem dX1_placeTold_0 : decode cX1_placeTold 0 = .ok (.iconst 0, 1) := by decide +kernel
theorem dX1_placeTold_1 : decode cX1_placeTold 1 = .ok (.istore 6, 2) := by decide +kernel
theorem dX1_placeTold_3 : decode cX1_placeTold 3 = .ok (.aload_n 0, 1) := by decide +kernel
theorem dX1_placeTold_4 : decode cX1_placeTold 4 = .ok (.getfield 19, 3) := by decide +kernel
theorem dX1_placeTold_7 : decode cX1_placeTold 7 = .ok (.istore 7, 2) := by decide +kernel
theorem dX1_placeTold_9 : decode cX1_placeTold 9 = .ok (.iconst 0, 1) := by decide +kernel
theorem dX1_placeTold_10 : decode cX1_placeTold 10 = .ok (.istore 8, 2) := by decide +kernel
theorem dX1_placeTold_12 : decode cX1_placeTold 12 = .ok (.iload 8, 2) := by decide +kernel
theorem dX1_placeTold_14 : decode cX1_placeTold 14 = .ok (.bipush 32, 2) := by decide +kernel
theorem dX1_placeTold_16 : decode cX1_placeTold 16 = .ok (.if_icmp .ge 54, 3) := by decide +kernel
theorem dX1_placeTold_19 : decode cX1_placeTold 19 = .ok (.iload 6, 2) := by decide +kernel
theorem dX1_placeTold_21 : decode cX1_placeTold 21 = .ok (.iload 7, 2) := by decide +kernel
theorem dX1_placeTold_23 : decode cX1_placeTold 23 = .ok (.if_icmp .ge 47, 3) := by decide +kernel
theorem dX1_placeTold_26 : decode cX1_placeTold 26 = .ok (.iload 6, 2) := by decide +kernel
theorem dX1_placeTold_28 : decode cX1_placeTold 28 = .ok (.iload 7, 2) := by decide +kernel
theorem dX1_placeTold_30 : decode cX1_placeTold 30 = .ok (.iadd, 1) := by decide +kernel
theorem dX1_placeTold_31 : decode cX1_placeTold 31 = .ok (.iconst 2, 1) := by decide +kernel
theorem dX1_placeTold_32 : decode cX1_placeTold 32 = .ok (.idiv, 1) := by decide +kernel
theorem dX1_placeTold_33 : decode cX1_placeTold 33 = .ok (.istore 9, 2) := by decide +kernel
theorem dX1_placeTold_35 : decode cX1_placeTold 35 = .ok (.aload_n 0, 1) := by decide +kernel
theorem dX1_placeTold_36 : decode cX1_placeTold 36 = .ok (.iload 9, 2) := by decide +kernel
theorem dX1_placeTold_38 : decode cX1_placeTold 38 = .ok (.iload_n 1, 1) := by decide +kernel
theorem dX1_placeTold_39 : decode cX1_placeTold 39 = .ok (.iload_n 2, 1) := by decide +kernel
theorem dX1_placeTold_40 : decode cX1_placeTold 40 = .ok (.iload_n 3, 1) := by decide +kernel
theorem dX1_placeTold_41 : decode cX1_placeTold 41 = .ok (.iload 4, 2) := by decide +kernel
theorem dX1_placeTold_43 : decode cX1_placeTold 43 = .ok (.invokevirtual 30, 3) := by decide +kernel
theorem dX1_placeTold_46 : decode cX1_placeTold 46 = .ok (.iload 5, 2) := by decide +kernel
theorem dX1_placeTold_48 : decode cX1_placeTold 48 = .ok (.if_icmp .ge 12, 3) := by decide +kernel
theorem dX1_placeTold_51 : decode cX1_placeTold 51 = .ok (.iload 9, 2) := by decide +kernel
theorem dX1_placeTold_53 : decode cX1_placeTold 53 = .ok (.iconst 1, 1) := by decide +kernel
theorem dX1_placeTold_54 : decode cX1_placeTold 54 = .ok (.iadd, 1) := by decide +kernel
theorem dX1_placeTold_55 : decode cX1_placeTold 55 = .ok (.istore 6, 2) := by decide +kernel
theorem dX1_placeTold_57 : decode cX1_placeTold 57 = .ok (.goto 7, 3) := by decide +kernel
theorem dX1_placeTold_60 : decode cX1_placeTold 60 = .ok (.iload 9, 2) := by decide +kernel
theorem dX1_placeTold_62 : decode cX1_placeTold 62 = .ok (.istore 7, 2) := by decide +kernel
theorem dX1_placeTold_64 : decode cX1_placeTold 64 = .ok (.iinc 8 1, 3) := by decide +kernel
theorem dX1_placeTold_67 : decode cX1_placeTold 67 = .ok (.goto (-55), 3) := by decide +kernel
theorem dX1_placeTold_70 : decode cX1_placeTold 70 = .ok (.iload 6, 2) := by decide +kernel
theorem dX1_placeTold_72 : decode cX1_placeTold 72 = .ok (.ireturn, 1) := by decide +kernel
theorem dX1_differentFirsts_0 : decode cX1_differentFirsts 0 = .ok (.iconst 0, 1) := by decide +kernel
theorem dX1_differentFirsts_1 : decode cX1_differentFirsts 1 = .ok (.istore_n 1, 1) := by decide +kernel
theorem dX1_differentFirsts_2 : decode cX1_differentFirsts 2 = .ok (.iconst 0, 1) := by decide +kernel
theorem dX1_differentFirsts_3 : decode cX1_differentFirsts 3 = .ok (.istore_n 2, 1) := by decide +kernel
theorem dX1_differentFirsts_4 : decode cX1_differentFirsts 4 = .ok (.iload_n 2, 1) := by decide +kernel
theorem dX1_differentFirsts_5 : decode cX1_differentFirsts 5 = .ok (.aload_n 0, 1) := by decide +kernel
theorem dX1_differentFirsts_6 : decode cX1_differentFirsts 6 = .ok (.getfield 19, 3) := by decide +kernel
theorem dX1_differentFirsts_9 : decode cX1_differentFirsts 9 = .ok (.if_icmp .ge 37, 3) := by decide +kernel
theorem dX1_differentFirsts_12 : decode cX1_differentFirsts 12 = .ok (.iload_n 2, 1) := by decide +kernel
theorem dX1_differentFirsts_13 : decode cX1_differentFirsts 13 = .ok (.ifCond .eq 24, 3) := by decide +kernel
theorem dX1_differentFirsts_16 : decode cX1_differentFirsts 16 = .ok (.aload_n 0, 1) := by decide +kernel
theorem dX1_differentFirsts_17 : decode cX1_differentFirsts 17 = .ok (.getfield 9, 3) := by decide +kernel
theorem dX1_differentFirsts_20 : decode cX1_differentFirsts 20 = .ok (.iconst 3, 1) := by decide +kernel
theorem dX1_differentFirsts_21 : decode cX1_differentFirsts 21 = .ok (.iload_n 2, 1) := by decide +kernel
theorem dX1_differentFirsts_22 : decode cX1_differentFirsts 22 = .ok (.imul, 1) := by decide +kernel
theorem dX1_differentFirsts_23 : decode cX1_differentFirsts 23 = .ok (.iaload, 1) := by decide +kernel
theorem dX1_differentFirsts_24 : decode cX1_differentFirsts 24 = .ok (.aload_n 0, 1) := by decide +kernel
theorem dX1_differentFirsts_25 : decode cX1_differentFirsts 25 = .ok (.getfield 9, 3) := by decide +kernel
theorem dX1_differentFirsts_28 : decode cX1_differentFirsts 28 = .ok (.iconst 3, 1) := by decide +kernel
theorem dX1_differentFirsts_29 : decode cX1_differentFirsts 29 = .ok (.iload_n 2, 1) := by decide +kernel
theorem dX1_differentFirsts_30 : decode cX1_differentFirsts 30 = .ok (.iconst 1, 1) := by decide +kernel
theorem dX1_differentFirsts_31 : decode cX1_differentFirsts 31 = .ok (.isub, 1) := by decide +kernel
theorem dX1_differentFirsts_32 : decode cX1_differentFirsts 32 = .ok (.imul, 1) := by decide +kernel
theorem dX1_differentFirsts_33 : decode cX1_differentFirsts 33 = .ok (.iaload, 1) := by decide +kernel
theorem dX1_differentFirsts_34 : decode cX1_differentFirsts 34 = .ok (.if_icmp .eq 6, 3) := by decide +kernel
theorem dX1_differentFirsts_37 : decode cX1_differentFirsts 37 = .ok (.iinc 1 1, 3) := by decide +kernel
theorem dX1_differentFirsts_40 : decode cX1_differentFirsts 40 = .ok (.iinc 2 1, 3) := by decide +kernel
theorem dX1_differentFirsts_43 : decode cX1_differentFirsts 43 = .ok (.goto (-39), 3) := by decide +kernel
theorem dX1_differentFirsts_46 : decode cX1_differentFirsts 46 = .ok (.iload_n 1, 1) := by decide +kernel
theorem dX1_differentFirsts_47 : decode cX1_differentFirsts 47 = .ok (.ireturn, 1) := by decide +kernel
set_option maxRecDepth 20000 in
theorem ggX1_insert_X1_placeOf : GoodIn wsX1_insert wsX1_placeOf := goodIn_r _ [11, 12, 13, 14, 10, 15, 16, 17, 18, 19, 20, 1, 21, 22, 23, 24, 2, 25, 26, 27] (by decide +kernel) (by decide +kernel)
set_option maxRecDepth 20000 in
theorem gX1_insert_X1_placeOf : GoodIn wsX1_insert (wsV RX1 33 RX1 yX1_placeOf wsX1_placeOf) := goodIn_app (goodIn_of _ (by decide +kernel)) ggX1_insert_X1_placeOf
set_option maxRecDepth 20000 in
theorem ggX1_insert_X1_turned : GoodIn wsX1_insert wsX1_turned := goodIn_r _ [15, 16, 25, 26, 27] (by decide +kernel) (by decide +kernel)
set_option maxRecDepth 20000 in
theorem gX1_insert_X1_turned : GoodIn wsX1_insert (wsV RX1 22 RX1 yX1_turned wsX1_turned) := goodIn_app (goodIn_of _ (by decide +kernel)) ggX1_insert_X1_turned
theorem dX1_insert_0 : decode cX1_insert 0 = .ok (.aload_n 0, 1) := by decide +kernel
theorem dX1_insert_1 : decode cX1_insert 1 = .ok (.getfield 19, 3) := by decide +kernel
theorem dX1_insert_4 : decode cX1_insert 4 = .ok (.sipush 700, 3) := by decide +kernel
theorem dX1_insert_7 : decode cX1_insert 7 = .ok (.if_icmp .lt 4, 3) := by decide +kernel
theorem dX1_insert_10 : decode cX1_insert 10 = .ok (.return_, 1) := by decide +kernel
theorem dX1_insert_11 : decode cX1_insert 11 = .ok (.aload_n 0, 1) := by decide +kernel
theorem dX1_insert_12 : decode cX1_insert 12 = .ok (.iconst 3, 1) := by decide +kernel
theorem dX1_insert_13 : decode cX1_insert 13 = .ok (.iload_n 1, 1) := by decide +kernel
theorem dX1_insert_14 : decode cX1_insert 14 = .ok (.iload_n 2, 1) := by decide +kernel
theorem dX1_insert_15 : decode cX1_insert 15 = .ok (.iload_n 3, 1) := by decide +kernel
theorem dX1_insert_16 : decode cX1_insert 16 = .ok (.iconst 0, 1) := by decide +kernel
theorem dX1_insert_17 : decode cX1_insert 17 = .ok (.invokevirtual 33, 3) := by decide +kernel
theorem dX1_insert_20 : decode cX1_insert 20 = .ok (.istore 4, 2) := by decide +kernel
theorem dX1_insert_22 : decode cX1_insert 22 = .ok (.iconst 3, 1) := by decide +kernel
theorem dX1_insert_23 : decode cX1_insert 23 = .ok (.iload 4, 2) := by decide +kernel
theorem dX1_insert_25 : decode cX1_insert 25 = .ok (.imul, 1) := by decide +kernel
theorem dX1_insert_26 : decode cX1_insert 26 = .ok (.istore 5, 2) := by decide +kernel
theorem dX1_insert_28 : decode cX1_insert 28 = .ok (.aload_n 0, 1) := by decide +kernel
theorem dX1_insert_29 : decode cX1_insert 29 = .ok (.getfield 9, 3) := by decide +kernel
theorem dX1_insert_32 : decode cX1_insert 32 = .ok (.iload 5, 2) := by decide +kernel
theorem dX1_insert_34 : decode cX1_insert 34 = .ok (.aload_n 0, 1) := by decide +kernel
theorem dX1_insert_35 : decode cX1_insert 35 = .ok (.getfield 9, 3) := by decide +kernel
theorem dX1_insert_38 : decode cX1_insert 38 = .ok (.iload 5, 2) := by decide +kernel
theorem dX1_insert_40 : decode cX1_insert 40 = .ok (.iconst 3, 1) := by decide +kernel
theorem dX1_insert_41 : decode cX1_insert 41 = .ok (.iadd, 1) := by decide +kernel
theorem dX1_insert_42 : decode cX1_insert 42 = .ok (.iconst 3, 1) := by decide +kernel
theorem dX1_insert_43 : decode cX1_insert 43 = .ok (.aload_n 0, 1) := by decide +kernel
theorem dX1_insert_44 : decode cX1_insert 44 = .ok (.getfield 19, 3) := by decide +kernel
theorem dX1_insert_47 : decode cX1_insert 47 = .ok (.iload 4, 2) := by decide +kernel
theorem dX1_insert_49 : decode cX1_insert 49 = .ok (.isub, 1) := by decide +kernel
theorem dX1_insert_50 : decode cX1_insert 50 = .ok (.imul, 1) := by decide +kernel
theorem dX1_insert_51 : decode cX1_insert 51 = .ok (.invokestatic 36, 3) := by decide +kernel
theorem dX1_insert_54 : decode cX1_insert 54 = .ok (.iconst 0, 1) := by decide +kernel
theorem dX1_insert_55 : decode cX1_insert 55 = .ok (.istore 6, 2) := by decide +kernel
theorem dX1_insert_57 : decode cX1_insert 57 = .ok (.iload 6, 2) := by decide +kernel
theorem dX1_insert_59 : decode cX1_insert 59 = .ok (.iconst 3, 1) := by decide +kernel
theorem dX1_insert_60 : decode cX1_insert 60 = .ok (.if_icmp .ge 28, 3) := by decide +kernel
theorem dX1_insert_63 : decode cX1_insert 63 = .ok (.aload_n 0, 1) := by decide +kernel
theorem dX1_insert_64 : decode cX1_insert 64 = .ok (.getfield 9, 3) := by decide +kernel
theorem dX1_insert_67 : decode cX1_insert 67 = .ok (.iload 5, 2) := by decide +kernel
theorem dX1_insert_69 : decode cX1_insert 69 = .ok (.iload 6, 2) := by decide +kernel
theorem dX1_insert_71 : decode cX1_insert 71 = .ok (.iadd, 1) := by decide +kernel
theorem dX1_insert_72 : decode cX1_insert 72 = .ok (.aload_n 0, 1) := by decide +kernel
theorem dX1_insert_73 : decode cX1_insert 73 = .ok (.iload 6, 2) := by decide +kernel
theorem dX1_insert_75 : decode cX1_insert 75 = .ok (.iload_n 1, 1) := by decide +kernel
theorem dX1_insert_76 : decode cX1_insert 76 = .ok (.iload_n 2, 1) := by decide +kernel
theorem dX1_insert_77 : decode cX1_insert 77 = .ok (.iload_n 3, 1) := by decide +kernel
theorem dX1_insert_78 : decode cX1_insert 78 = .ok (.invokevirtual 22, 3) := by decide +kernel
theorem dX1_insert_81 : decode cX1_insert 81 = .ok (.iastore, 1) := by decide +kernel
theorem dX1_insert_82 : decode cX1_insert 82 = .ok (.iinc 6 1, 3) := by decide +kernel
theorem dX1_insert_85 : decode cX1_insert 85 = .ok (.goto (-28), 3) := by decide +kernel
theorem dX1_insert_88 : decode cX1_insert 88 = .ok (.aload_n 0, 1) := by decide +kernel
theorem dX1_insert_89 : decode cX1_insert 89 = .ok (.dup, 1) := by decide +kernel
theorem dX1_insert_90 : decode cX1_insert 90 = .ok (.getfield 19, 3) := by decide +kernel
theorem dX1_insert_93 : decode cX1_insert 93 = .ok (.iconst 1, 1) := by decide +kernel
theorem dX1_insert_94 : decode cX1_insert 94 = .ok (.iadd, 1) := by decide +kernel
theorem dX1_insert_95 : decode cX1_insert 95 = .ok (.putfield 19, 3) := by decide +kernel
theorem dX1_insert_98 : decode cX1_insert 98 = .ok (.return_, 1) := by decide +kernel
theorem dX1_cut_0 : decode cX1_cut 0 = .ok (.iload_n 1, 1) := by decide +kernel
theorem dX1_cut_1 : decode cX1_cut 1 = .ok (.ifCond .lt 11, 3) := by decide +kernel
theorem dX1_cut_4 : decode cX1_cut 4 = .ok (.iload_n 1, 1) := by decide +kernel
theorem dX1_cut_5 : decode cX1_cut 5 = .ok (.aload_n 0, 1) := by decide +kernel
theorem dX1_cut_6 : decode cX1_cut 6 = .ok (.getfield 19, 3) := by decide +kernel
theorem dX1_cut_9 : decode cX1_cut 9 = .ok (.if_icmp .lt 4, 3) := by decide +kernel
theorem dX1_cut_12 : decode cX1_cut 12 = .ok (.return_, 1) := by decide +kernel
theorem dX1_cut_13 : decode cX1_cut 13 = .ok (.iconst 3, 1) := by decide +kernel
theorem dX1_cut_14 : decode cX1_cut 14 = .ok (.iload_n 1, 1) := by decide +kernel
theorem dX1_cut_15 : decode cX1_cut 15 = .ok (.imul, 1) := by decide +kernel
theorem dX1_cut_16 : decode cX1_cut 16 = .ok (.istore_n 2, 1) := by decide +kernel
theorem dX1_cut_17 : decode cX1_cut 17 = .ok (.aload_n 0, 1) := by decide +kernel
theorem dX1_cut_18 : decode cX1_cut 18 = .ok (.getfield 9, 3) := by decide +kernel
theorem dX1_cut_21 : decode cX1_cut 21 = .ok (.iload_n 2, 1) := by decide +kernel
theorem dX1_cut_22 : decode cX1_cut 22 = .ok (.iconst 3, 1) := by decide +kernel
theorem dX1_cut_23 : decode cX1_cut 23 = .ok (.iadd, 1) := by decide +kernel
theorem dX1_cut_24 : decode cX1_cut 24 = .ok (.aload_n 0, 1) := by decide +kernel
theorem dX1_cut_25 : decode cX1_cut 25 = .ok (.getfield 9, 3) := by decide +kernel
theorem dX1_cut_28 : decode cX1_cut 28 = .ok (.iload_n 2, 1) := by decide +kernel
theorem dX1_cut_29 : decode cX1_cut 29 = .ok (.iconst 3, 1) := by decide +kernel
theorem dX1_cut_30 : decode cX1_cut 30 = .ok (.aload_n 0, 1) := by decide +kernel
theorem dX1_cut_31 : decode cX1_cut 31 = .ok (.getfield 19, 3) := by decide +kernel
theorem dX1_cut_34 : decode cX1_cut 34 = .ok (.iload_n 1, 1) := by decide +kernel
theorem dX1_cut_35 : decode cX1_cut 35 = .ok (.isub, 1) := by decide +kernel
theorem dX1_cut_36 : decode cX1_cut 36 = .ok (.iconst 1, 1) := by decide +kernel
theorem dX1_cut_37 : decode cX1_cut 37 = .ok (.isub, 1) := by decide +kernel
theorem dX1_cut_38 : decode cX1_cut 38 = .ok (.imul, 1) := by decide +kernel
theorem dX1_cut_39 : decode cX1_cut 39 = .ok (.invokestatic 36, 3) := by decide +kernel
theorem dX1_cut_42 : decode cX1_cut 42 = .ok (.aload_n 0, 1) := by decide +kernel
theorem dX1_cut_43 : decode cX1_cut 43 = .ok (.dup, 1) := by decide +kernel
theorem dX1_cut_44 : decode cX1_cut 44 = .ok (.getfield 19, 3) := by decide +kernel
theorem dX1_cut_47 : decode cX1_cut 47 = .ok (.iconst 1, 1) := by decide +kernel
theorem dX1_cut_48 : decode cX1_cut 48 = .ok (.isub, 1) := by decide +kernel
theorem dX1_cut_49 : decode cX1_cut 49 = .ok (.putfield 19, 3) := by decide +kernel
theorem dX1_cut_52 : decode cX1_cut 52 = .ok (.return_, 1) := by decide +kernel
theorem dX1_turned_0 : decode cX1_turned 0 = .ok (.aload_n 0, 1) := by decide +kernel
theorem dX1_turned_1 : decode cX1_turned 1 = .ok (.getfield 15, 3) := by decide +kernel
theorem dX1_turned_4 : decode cX1_turned 4 = .ok (.iload_n 1, 1) := by decide +kernel
theorem dX1_turned_5 : decode cX1_turned 5 = .ok (.iadd, 1) := by decide +kernel
theorem dX1_turned_6 : decode cX1_turned 6 = .ok (.iconst 3, 1) := by decide +kernel
theorem dX1_turned_7 : decode cX1_turned 7 = .ok (.irem, 1) := by decide +kernel
theorem dX1_turned_8 : decode cX1_turned 8 = .ok (.istore 5, 2) := by decide +kernel
theorem dX1_turned_10 : decode cX1_turned 10 = .ok (.iload 5, 2) := by decide +kernel
theorem dX1_turned_12 : decode cX1_turned 12 = .ok (.ifCond .ne 5, 3) := by decide +kernel
theorem dX1_turned_15 : decode cX1_turned 15 = .ok (.iload_n 2, 1) := by decide +kernel
theorem dX1_turned_16 : decode cX1_turned 16 = .ok (.ireturn, 1) := by decide +kernel
theorem dX1_turned_17 : decode cX1_turned 17 = .ok (.iload 5, 2) := by decide +kernel
theorem dX1_turned_19 : decode cX1_turned 19 = .ok (.iconst 1, 1) := by decide +kernel
theorem dX1_turned_20 : decode cX1_turned 20 = .ok (.if_icmp .ne 7, 3) := by decide +kernel
theorem dX1_turned_23 : decode cX1_turned 23 = .ok (.iload_n 3, 1) := by decide +kernel
theorem dX1_turned_24 : decode cX1_turned 24 = .ok (.goto 5, 3) := by decide +kernel
theorem dX1_turned_27 : decode cX1_turned 27 = .ok (.iload 4, 2) := by decide +kernel
theorem dX1_turned_29 : decode cX1_turned 29 = .ok (.ireturn, 1) := by decide +kernel
theorem dX1_compareAt_0 : decode cX1_compareAt 0 = .ok (.iconst 3, 1) := by decide +kernel
theorem dX1_compareAt_1 : decode cX1_compareAt 1 = .ok (.iload_n 1, 1) := by decide +kernel
theorem dX1_compareAt_2 : decode cX1_compareAt 2 = .ok (.imul, 1) := by decide +kernel
theorem dX1_compareAt_3 : decode cX1_compareAt 3 = .ok (.istore 6, 2) := by decide +kernel
theorem dX1_compareAt_5 : decode cX1_compareAt 5 = .ok (.iload_n 2, 1) := by decide +kernel
theorem dX1_compareAt_6 : decode cX1_compareAt 6 = .ok (.ifCond .le 31, 3) := by decide +kernel
theorem dX1_compareAt_9 : decode cX1_compareAt 9 = .ok (.aload_n 0, 1) := by decide +kernel
theorem dX1_compareAt_10 : decode cX1_compareAt 10 = .ok (.getfield 9, 3) := by decide +kernel
theorem dX1_compareAt_13 : decode cX1_compareAt 13 = .ok (.iload 6, 2) := by decide +kernel
theorem dX1_compareAt_15 : decode cX1_compareAt 15 = .ok (.iaload, 1) := by decide +kernel
theorem dX1_compareAt_16 : decode cX1_compareAt 16 = .ok (.iload_n 3, 1) := by decide +kernel
theorem dX1_compareAt_17 : decode cX1_compareAt 17 = .ok (.if_icmp .eq 20, 3) := by decide +kernel
theorem dX1_compareAt_20 : decode cX1_compareAt 20 = .ok (.aload_n 0, 1) := by decide +kernel
theorem dX1_compareAt_21 : decode cX1_compareAt 21 = .ok (.getfield 9, 3) := by decide +kernel
theorem dX1_compareAt_24 : decode cX1_compareAt 24 = .ok (.iload 6, 2) := by decide +kernel
theorem dX1_compareAt_26 : decode cX1_compareAt 26 = .ok (.iaload, 1) := by decide +kernel
theorem dX1_compareAt_27 : decode cX1_compareAt 27 = .ok (.iload_n 3, 1) := by decide +kernel
theorem dX1_compareAt_28 : decode cX1_compareAt 28 = .ok (.if_icmp .ge 7, 3) := by decide +kernel
theorem dX1_compareAt_31 : decode cX1_compareAt 31 = .ok (.iconst (-1), 1) := by decide +kernel
theorem dX1_compareAt_32 : decode cX1_compareAt 32 = .ok (.goto 4, 3) := by decide +kernel
theorem dX1_compareAt_35 : decode cX1_compareAt 35 = .ok (.iconst 1, 1) := by decide +kernel
theorem dX1_compareAt_36 : decode cX1_compareAt 36 = .ok (.ireturn, 1) := by decide +kernel
theorem dX1_compareAt_37 : decode cX1_compareAt 37 = .ok (.iload_n 2, 1) := by decide +kernel
theorem dX1_compareAt_38 : decode cX1_compareAt 38 = .ok (.iconst 1, 1) := by decide +kernel
theorem dX1_compareAt_39 : decode cX1_compareAt 39 = .ok (.if_icmp .le 37, 3) := by decide +kernel
theorem dX1_compareAt_42 : decode cX1_compareAt 42 = .ok (.aload_n 0, 1) := by decide +kernel
theorem dX1_compareAt_43 : decode cX1_compareAt 43 = .ok (.getfield 9, 3) := by decide +kernel
theorem dX1_compareAt_46 : decode cX1_compareAt 46 = .ok (.iload 6, 2) := by decide +kernel
theorem dX1_compareAt_48 : decode cX1_compareAt 48 = .ok (.iconst 1, 1) := by decide +kernel
theorem dX1_compareAt_49 : decode cX1_compareAt 49 = .ok (.iadd, 1) := by decide +kernel
theorem dX1_compareAt_50 : decode cX1_compareAt 50 = .ok (.iaload, 1) := by decide +kernel
theorem dX1_compareAt_51 : decode cX1_compareAt 51 = .ok (.iload 4, 2) := by decide +kernel
theorem dX1_compareAt_53 : decode cX1_compareAt 53 = .ok (.if_icmp .eq 23, 3) := by decide +kernel
theorem dX1_compareAt_56 : decode cX1_compareAt 56 = .ok (.aload_n 0, 1) := by decide +kernel
theorem dX1_compareAt_57 : decode cX1_compareAt 57 = .ok (.getfield 9, 3) := by decide +kernel
theorem dX1_compareAt_60 : decode cX1_compareAt 60 = .ok (.iload 6, 2) := by decide +kernel
theorem dX1_compareAt_62 : decode cX1_compareAt 62 = .ok (.iconst 1, 1) := by decide +kernel
theorem dX1_compareAt_63 : decode cX1_compareAt 63 = .ok (.iadd, 1) := by decide +kernel
theorem dX1_compareAt_64 : decode cX1_compareAt 64 = .ok (.iaload, 1) := by decide +kernel
theorem dX1_compareAt_65 : decode cX1_compareAt 65 = .ok (.iload 4, 2) := by decide +kernel
theorem dX1_compareAt_67 : decode cX1_compareAt 67 = .ok (.if_icmp .ge 7, 3) := by decide +kernel
theorem dX1_compareAt_70 : decode cX1_compareAt 70 = .ok (.iconst (-1), 1) := by decide +kernel
theorem dX1_compareAt_71 : decode cX1_compareAt 71 = .ok (.goto 4, 3) := by decide +kernel
theorem dX1_compareAt_74 : decode cX1_compareAt 74 = .ok (.iconst 1, 1) := by decide +kernel
theorem dX1_compareAt_75 : decode cX1_compareAt 75 = .ok (.ireturn, 1) := by decide +kernel
theorem dX1_compareAt_76 : decode cX1_compareAt 76 = .ok (.iload_n 2, 1) := by decide +kernel
theorem dX1_compareAt_77 : decode cX1_compareAt 77 = .ok (.iconst 2, 1) := by decide +kernel
theorem dX1_compareAt_78 : decode cX1_compareAt 78 = .ok (.if_icmp .le 37, 3) := by decide +kernel
theorem dX1_compareAt_81 : decode cX1_compareAt 81 = .ok (.aload_n 0, 1) := by decide +kernel
theorem dX1_compareAt_82 : decode cX1_compareAt 82 = .ok (.getfield 9, 3) := by decide +kernel
theorem dX1_compareAt_85 : decode cX1_compareAt 85 = .ok (.iload 6, 2) := by decide +kernel
theorem dX1_compareAt_87 : decode cX1_compareAt 87 = .ok (.iconst 2, 1) := by decide +kernel
theorem dX1_compareAt_88 : decode cX1_compareAt 88 = .ok (.iadd, 1) := by decide +kernel
theorem dX1_compareAt_89 : decode cX1_compareAt 89 = .ok (.iaload, 1) := by decide +kernel
theorem dX1_compareAt_90 : decode cX1_compareAt 90 = .ok (.iload 5, 2) := by decide +kernel
theorem dX1_compareAt_92 : decode cX1_compareAt 92 = .ok (.if_icmp .eq 23, 3) := by decide +kernel
theorem dX1_compareAt_95 : decode cX1_compareAt 95 = .ok (.aload_n 0, 1) := by decide +kernel
theorem dX1_compareAt_96 : decode cX1_compareAt 96 = .ok (.getfield 9, 3) := by decide +kernel
theorem dX1_compareAt_99 : decode cX1_compareAt 99 = .ok (.iload 6, 2) := by decide +kernel
theorem dX1_compareAt_101 : decode cX1_compareAt 101 = .ok (.iconst 2, 1) := by decide +kernel
theorem dX1_compareAt_102 : decode cX1_compareAt 102 = .ok (.iadd, 1) := by decide +kernel
theorem dX1_compareAt_103 : decode cX1_compareAt 103 = .ok (.iaload, 1) := by decide +kernel
theorem dX1_compareAt_104 : decode cX1_compareAt 104 = .ok (.iload 5, 2) := by decide +kernel
theorem dX1_compareAt_106 : decode cX1_compareAt 106 = .ok (.if_icmp .ge 7, 3) := by decide +kernel
theorem dX1_compareAt_109 : decode cX1_compareAt 109 = .ok (.iconst (-1), 1) := by decide +kernel
theorem dX1_compareAt_110 : decode cX1_compareAt 110 = .ok (.goto 4, 3) := by decide +kernel
theorem dX1_compareAt_113 : decode cX1_compareAt 113 = .ok (.iconst 1, 1) := by decide +kernel
theorem dX1_compareAt_114 : decode cX1_compareAt 114 = .ok (.ireturn, 1) := by decide +kernel
theorem dX1_compareAt_115 : decode cX1_compareAt 115 = .ok (.iconst 0, 1) := by decide +kernel
theorem dX1_compareAt_116 : decode cX1_compareAt 116 = .ok (.ireturn, 1) := by decide +kernel
theorem dX2_init_0 : decode cX2_init 0 = .ok (.aload_n 0, 1) := by decide +kernel
theorem dX2_init_1 : decode cX2_init 1 = .ok (.invokespecial 3, 3) := by decide +kernel
theorem dX2_init_4 : decode cX2_init 4 = .ok (.aload_n 0, 1) := by decide +kernel
theorem dX2_init_5 : decode cX2_init 5 = .ok (.sipush 701, 3) := by decide +kernel
theorem dX2_init_8 : decode cX2_init 8 = .ok (.newarray .int, 2) := by decide +kernel
theorem dX2_init_10 : decode cX2_init 10 = .ok (.putfield 9, 3) := by decide +kernel
theorem dX2_init_13 : decode cX2_init 13 = .ok (.aload_n 0, 1) := by decide +kernel
theorem dX2_init_14 : decode cX2_init 14 = .ok (.sipush 701, 3) := by decide +kernel
theorem dX2_init_17 : decode cX2_init 17 = .ok (.newarray .int, 2) := by decide +kernel
theorem dX2_init_19 : decode cX2_init 19 = .ok (.putfield 15, 3) := by decide +kernel
theorem dX2_init_22 : decode cX2_init 22 = .ok (.aload_n 0, 1) := by decide +kernel
theorem dX2_init_23 : decode cX2_init 23 = .ok (.sipush 700, 3) := by decide +kernel
theorem dX2_init_26 : decode cX2_init 26 = .ok (.newarray .boolean, 2) := by decide +kernel
theorem dX2_init_28 : decode cX2_init 28 = .ok (.putfield 18, 3) := by decide +kernel
theorem dX2_init_31 : decode cX2_init 31 = .ok (.return_, 1) := by decide +kernel
theorem dX2_clear_0 : decode cX2_clear 0 = .ok (.aload_n 0, 1) := by decide +kernel
theorem dX2_clear_1 : decode cX2_clear 1 = .ok (.iconst 0, 1) := by decide +kernel
theorem dX2_clear_2 : decode cX2_clear 2 = .ok (.putfield 22, 3) := by decide +kernel
theorem dX2_clear_5 : decode cX2_clear 5 = .ok (.iload_n 1, 1) := by decide +kernel
theorem dX2_clear_6 : decode cX2_clear 6 = .ok (.iconst 0, 1) := by decide +kernel
theorem dX2_clear_7 : decode cX2_clear 7 = .ok (.invokestatic 26, 3) := by decide +kernel
theorem dX2_clear_10 : decode cX2_clear 10 = .ok (.istore_n 3, 1) := by decide +kernel
theorem dX2_clear_11 : decode cX2_clear 11 = .ok (.iload_n 3, 1) := by decide +kernel
theorem dX2_clear_12 : decode cX2_clear 12 = .ok (.iload_n 2, 1) := by decide +kernel
theorem dX2_clear_13 : decode cX2_clear 13 = .ok (.if_icmp .ge 23, 3) := by decide +kernel
theorem dX2_clear_16 : decode cX2_clear 16 = .ok (.iload_n 3, 1) := by decide +kernel
theorem dX2_clear_17 : decode cX2_clear 17 = .ok (.sipush 700, 3) := by decide +kernel
theorem dX2_clear_20 : decode cX2_clear 20 = .ok (.if_icmp .ge 16, 3) := by decide +kernel
theorem dX2_clear_23 : decode cX2_clear 23 = .ok (.aload_n 0, 1) := by decide +kernel
theorem dX2_clear_24 : decode cX2_clear 24 = .ok (.getfield 18, 3) := by decide +kernel
theorem dX2_clear_27 : decode cX2_clear 27 = .ok (.iload_n 3, 1) := by decide +kernel
theorem dX2_clear_28 : decode cX2_clear 28 = .ok (.iconst 0, 1) := by decide +kernel
theorem dX2_clear_29 : decode cX2_clear 29 = .ok (.bastore, 1) := by decide +kernel
theorem dX2_clear_30 : decode cX2_clear 30 = .ok (.iinc 3 1, 3) := by decide +kernel
theorem dX2_clear_33 : decode cX2_clear 33 = .ok (.goto (-22), 3) := by decide +kernel
theorem dX2_clear_36 : decode cX2_clear 36 = .ok (.return_, 1) := by decide +kernel
theorem dX2_mark_0 : decode cX2_mark 0 = .ok (.iload_n 1, 1) := by decide +kernel
theorem dX2_mark_1 : decode cX2_mark 1 = .ok (.ifCond .lt 19, 3) := by decide +kernel
theorem dX2_mark_4 : decode cX2_mark 4 = .ok (.iload_n 1, 1) := by decide +kernel
theorem dX2_mark_5 : decode cX2_mark 5 = .ok (.sipush 700, 3) := by decide +kernel
theorem dX2_mark_8 : decode cX2_mark 8 = .ok (.if_icmp .ge 12, 3) := by decide +kernel
theorem dX2_mark_11 : decode cX2_mark 11 = .ok (.aload_n 0, 1) := by decide +kernel
theorem dX2_mark_12 : decode cX2_mark 12 = .ok (.getfield 18, 3) := by decide +kernel
theorem dX2_mark_15 : decode cX2_mark 15 = .ok (.iload_n 1, 1) := by decide +kernel
theorem dX2_mark_16 : decode cX2_mark 16 = .ok (.baload, 1) := by decide +kernel
theorem dX2_mark_17 : decode cX2_mark 17 = .ok (.ifCond .eq 5, 3) := by decide +kernel
theorem dX2_mark_20 : decode cX2_mark 20 = .ok (.iconst 0, 1) := by decide +kernel
theorem dX2_mark_21 : decode cX2_mark 21 = .ok (.ireturn, 1) := by decide +kernel
theorem dX2_mark_22 : decode cX2_mark 22 = .ok (.aload_n 0, 1) := by decide +kernel
theorem dX2_mark_23 : decode cX2_mark 23 = .ok (.getfield 18, 3) := by decide +kernel
theorem dX2_mark_26 : decode cX2_mark 26 = .ok (.iload_n 1, 1) := by decide +kernel
theorem dX2_mark_27 : decode cX2_mark 27 = .ok (.iconst 1, 1) := by decide +kernel
theorem dX2_mark_28 : decode cX2_mark 28 = .ok (.bastore, 1) := by decide +kernel
theorem dX2_mark_29 : decode cX2_mark 29 = .ok (.iconst 1, 1) := by decide +kernel
theorem dX2_mark_30 : decode cX2_mark 30 = .ok (.ireturn, 1) := by decide +kernel
theorem dX2_comeTo_0 : decode cX2_comeTo 0 = .ok (.aload_n 0, 1) := by decide +kernel
theorem dX2_comeTo_1 : decode cX2_comeTo 1 = .ok (.getfield 22, 3) := by decide +kernel
theorem dX2_comeTo_4 : decode cX2_comeTo 4 = .ok (.sipush 700, 3) := by decide +kernel
theorem dX2_comeTo_7 : decode cX2_comeTo 7 = .ok (.if_icmp .gt 33, 3) := by decide +kernel
theorem dX2_comeTo_10 : decode cX2_comeTo 10 = .ok (.aload_n 0, 1) := by decide +kernel
theorem dX2_comeTo_11 : decode cX2_comeTo 11 = .ok (.getfield 9, 3) := by decide +kernel
theorem dX2_comeTo_14 : decode cX2_comeTo 14 = .ok (.aload_n 0, 1) := by decide +kernel
theorem dX2_comeTo_15 : decode cX2_comeTo 15 = .ok (.getfield 22, 3) := by decide +kernel
theorem dX2_comeTo_18 : decode cX2_comeTo 18 = .ok (.iload_n 1, 1) := by decide +kernel
theorem dX2_comeTo_19 : decode cX2_comeTo 19 = .ok (.iastore, 1) := by decide +kernel
theorem dX2_comeTo_20 : decode cX2_comeTo 20 = .ok (.aload_n 0, 1) := by decide +kernel
theorem dX2_comeTo_21 : decode cX2_comeTo 21 = .ok (.getfield 15, 3) := by decide +kernel
theorem dX2_comeTo_24 : decode cX2_comeTo 24 = .ok (.aload_n 0, 1) := by decide +kernel
theorem dX2_comeTo_25 : decode cX2_comeTo 25 = .ok (.getfield 22, 3) := by decide +kernel
theorem dX2_comeTo_28 : decode cX2_comeTo 28 = .ok (.iload_n 2, 1) := by decide +kernel
theorem dX2_comeTo_29 : decode cX2_comeTo 29 = .ok (.iastore, 1) := by decide +kernel
theorem dX2_comeTo_30 : decode cX2_comeTo 30 = .ok (.aload_n 0, 1) := by decide +kernel
theorem dX2_comeTo_31 : decode cX2_comeTo 31 = .ok (.dup, 1) := by decide +kernel
theorem dX2_comeTo_32 : decode cX2_comeTo 32 = .ok (.getfield 22, 3) := by decide +kernel
theorem dX2_comeTo_35 : decode cX2_comeTo 35 = .ok (.iconst 1, 1) := by decide +kernel
theorem dX2_comeTo_36 : decode cX2_comeTo 36 = .ok (.iadd, 1) := by decide +kernel
theorem dX2_comeTo_37 : decode cX2_comeTo 37 = .ok (.putfield 22, 3) := by decide +kernel
theorem dX2_comeTo_40 : decode cX2_comeTo 40 = .ok (.return_, 1) := by decide +kernel
theorem dX2_stepsTo_0 : decode cX2_stepsTo 0 = .ok (.iconst 0, 1) := by decide +kernel
theorem dX2_stepsTo_1 : decode cX2_stepsTo 1 = .ok (.istore_n 2, 1) := by decide +kernel
theorem dX2_stepsTo_2 : decode cX2_stepsTo 2 = .ok (.iload_n 2, 1) := by decide +kernel
theorem dX2_stepsTo_3 : decode cX2_stepsTo 3 = .ok (.aload_n 0, 1) := by decide +kernel
theorem dX2_stepsTo_4 : decode cX2_stepsTo 4 = .ok (.getfield 22, 3) := by decide +kernel
theorem dX2_stepsTo_7 : decode cX2_stepsTo 7 = .ok (.if_icmp .ge 33, 3) := by decide +kernel
theorem dX2_stepsTo_10 : decode cX2_stepsTo 10 = .ok (.iload_n 2, 1) := by decide +kernel
theorem dX2_stepsTo_11 : decode cX2_stepsTo 11 = .ok (.sipush 700, 3) := by decide +kernel
theorem dX2_stepsTo_14 : decode cX2_stepsTo 14 = .ok (.if_icmp .gt 26, 3) := by decide +kernel
theorem dX2_stepsTo_17 : decode cX2_stepsTo 17 = .ok (.aload_n 0, 1) := by decide +kernel
theorem dX2_stepsTo_18 : decode cX2_stepsTo 18 = .ok (.getfield 9, 3) := by decide +kernel
theorem dX2_stepsTo_21 : decode cX2_stepsTo 21 = .ok (.iload_n 2, 1) := by decide +kernel
theorem dX2_stepsTo_22 : decode cX2_stepsTo 22 = .ok (.iaload, 1) := by decide +kernel
theorem dX2_stepsTo_23 : decode cX2_stepsTo 23 = .ok (.iload_n 1, 1) := by decide +kernel
theorem dX2_stepsTo_24 : decode cX2_stepsTo 24 = .ok (.if_icmp .ne 10, 3) := by decide +kernel
theorem dX2_stepsTo_27 : decode cX2_stepsTo 27 = .ok (.aload_n 0, 1) := by decide +kernel
theorem dX2_stepsTo_28 : decode cX2_stepsTo 28 = .ok (.getfield 15, 3) := by decide +kernel
theorem dX2_stepsTo_31 : decode cX2_stepsTo 31 = .ok (.iload_n 2, 1) := by decide +kernel
theorem dX2_stepsTo_32 : decode cX2_stepsTo 32 = .ok (.iaload, 1) := by decide +kernel
theorem dX2_stepsTo_33 : decode cX2_stepsTo 33 = .ok (.ireturn, 1) := by decide +kernel
theorem dX2_stepsTo_34 : decode cX2_stepsTo 34 = .ok (.iinc 2 1, 3) := by decide +kernel
theorem dX2_stepsTo_37 : decode cX2_stepsTo 37 = .ok (.goto (-35), 3) := by decide +kernel
theorem dX2_stepsTo_40 : decode cX2_stepsTo 40 = .ok (.iconst (-1), 1) := by decide +kernel
theorem dX2_stepsTo_41 : decode cX2_stepsTo 41 = .ok (.ireturn, 1) := by decide +kernel
set_option maxRecDepth 20000 in
theorem ggX3_init_X1_init : GoodIn wsX3_init wsX1_init := goodIn_r _ [18, 19, 2, 3, 20, 21, 22, 37, 38, 39] (by decide +kernel) (by decide +kernel)
set_option maxRecDepth 20000 in
theorem gX3_init_X1_init : GoodIn wsX3_init (wsX1_init) := ggX3_init_X1_init
set_option maxRecDepth 20000 in
theorem ggX3_init_X0_init : GoodIn wsX3_init wsX0_init := goodIn_r _ [24, 25, 2, 3] (by decide +kernel) (by decide +kernel)
set_option maxRecDepth 20000 in
theorem gX3_init_X0_init_n24 : GoodIn wsX3_init (wsX0_init) := ggX3_init_X0_init
set_option maxRecDepth 20000 in
theorem ggX3_init_X2_init : GoodIn wsX3_init wsX2_init := goodIn_r _ [27, 28, 2, 3, 20, 29, 30, 31, 32, 46, 47, 48, 49] (by decide +kernel) (by decide +kernel)
set_option maxRecDepth 20000 in
theorem gX3_init_X2_init_n27 : GoodIn wsX3_init (wsX2_init) := ggX3_init_X2_init
theorem dX3_init_0 : decode cX3_init 0 = .ok (.aload_n 0, 1) := by decide +kernel
theorem dX3_init_1 : decode cX3_init 1 = .ok (.invokespecial 1, 3) := by decide +kernel
theorem dX3_init_4 : decode cX3_init 4 = .ok (.aload_n 0, 1) := by decide +kernel
theorem dX3_init_5 : decode cX3_init 5 = .ok (.iconst 3, 1) := by decide +kernel
theorem dX3_init_6 : decode cX3_init 6 = .ok (.anewarray 9, 3) := by decide +kernel
theorem dX3_init_9 : decode cX3_init 9 = .ok (.putfield 11, 3) := by decide +kernel
theorem dX3_init_12 : decode cX3_init 12 = .ok (.iconst 0, 1) := by decide +kernel
theorem dX3_init_13 : decode cX3_init 13 = .ok (.istore_n 1, 1) := by decide +kernel
theorem dX3_init_14 : decode cX3_init 14 = .ok (.iload_n 1, 1) := by decide +kernel
theorem dX3_init_15 : decode cX3_init 15 = .ok (.aload_n 0, 1) := by decide +kernel
theorem dX3_init_16 : decode cX3_init 16 = .ok (.getfield 11, 3) := by decide +kernel
theorem dX3_init_19 : decode cX3_init 19 = .ok (.arraylength, 1) := by decide +kernel
theorem dX3_init_20 : decode cX3_init 20 = .ok (.if_icmp .ge 23, 3) := by decide +kernel
theorem dX3_init_23 : decode cX3_init 23 = .ok (.aload_n 0, 1) := by decide +kernel
theorem dX3_init_24 : decode cX3_init 24 = .ok (.getfield 11, 3) := by decide +kernel
theorem dX3_init_27 : decode cX3_init 27 = .ok (.iload_n 1, 1) := by decide +kernel
theorem dX3_init_28 : decode cX3_init 28 = .ok (.new 9, 3) := by decide +kernel
theorem dX3_init_31 : decode cX3_init 31 = .ok (.dup, 1) := by decide +kernel
theorem dX3_init_32 : decode cX3_init 32 = .ok (.iload_n 1, 1) := by decide +kernel
theorem dX3_init_33 : decode cX3_init 33 = .ok (.invokespecial 15, 3) := by decide +kernel
theorem dX3_init_36 : decode cX3_init 36 = .ok (.aastore, 1) := by decide +kernel
theorem dX3_init_37 : decode cX3_init 37 = .ok (.iinc 1 1, 3) := by decide +kernel
theorem dX3_init_40 : decode cX3_init 40 = .ok (.goto (-26), 3) := by decide +kernel
theorem dX3_init_43 : decode cX3_init 43 = .ok (.aload_n 0, 1) := by decide +kernel
theorem dX3_init_44 : decode cX3_init 44 = .ok (.bipush 8, 2) := by decide +kernel
theorem dX3_init_46 : decode cX3_init 46 = .ok (.anewarray 18, 3) := by decide +kernel
theorem dX3_init_49 : decode cX3_init 49 = .ok (.putfield 20, 3) := by decide +kernel
theorem dX3_init_52 : decode cX3_init 52 = .ok (.iconst 0, 1) := by decide +kernel
theorem dX3_init_53 : decode cX3_init 53 = .ok (.istore_n 1, 1) := by decide +kernel
theorem dX3_init_54 : decode cX3_init 54 = .ok (.iload_n 1, 1) := by decide +kernel
theorem dX3_init_55 : decode cX3_init 55 = .ok (.aload_n 0, 1) := by decide +kernel
theorem dX3_init_56 : decode cX3_init 56 = .ok (.getfield 20, 3) := by decide +kernel
theorem dX3_init_59 : decode cX3_init 59 = .ok (.arraylength, 1) := by decide +kernel
theorem dX3_init_60 : decode cX3_init 60 = .ok (.if_icmp .ge 22, 3) := by decide +kernel
theorem dX3_init_63 : decode cX3_init 63 = .ok (.aload_n 0, 1) := by decide +kernel
theorem dX3_init_64 : decode cX3_init 64 = .ok (.getfield 20, 3) := by decide +kernel
theorem dX3_init_67 : decode cX3_init 67 = .ok (.iload_n 1, 1) := by decide +kernel
theorem dX3_init_68 : decode cX3_init 68 = .ok (.new 18, 3) := by decide +kernel
theorem dX3_init_71 : decode cX3_init 71 = .ok (.dup, 1) := by decide +kernel
theorem dX3_init_72 : decode cX3_init 72 = .ok (.invokespecial 24, 3) := by decide +kernel
theorem dX3_init_75 : decode cX3_init 75 = .ok (.aastore, 1) := by decide +kernel
theorem dX3_init_76 : decode cX3_init 76 = .ok (.iinc 1 1, 3) := by decide +kernel
theorem dX3_init_79 : decode cX3_init 79 = .ok (.goto (-25), 3) := by decide +kernel
theorem dX3_init_82 : decode cX3_init 82 = .ok (.aload_n 0, 1) := by decide +kernel
theorem dX3_init_83 : decode cX3_init 83 = .ok (.new 25, 3) := by decide +kernel
theorem dX3_init_86 : decode cX3_init 86 = .ok (.dup, 1) := by decide +kernel
theorem dX3_init_87 : decode cX3_init 87 = .ok (.invokespecial 27, 3) := by decide +kernel
theorem dX3_init_90 : decode cX3_init 90 = .ok (.putfield 28, 3) := by decide +kernel
theorem dX3_init_93 : decode cX3_init 93 = .ok (.return_, 1) := by decide +kernel
set_option maxRecDepth 20000 in
theorem ggX3_add_X3_matching : GoodIn wsX3_add wsX3_matching := goodIn_r _ [7, 8, 9, 10, 6, 11, 1, 12, 13, 14, 15, 16, 17, 18, 19, 20, 21, 22, 23, 24, 25, 26, 27, 28, 29, 30, 31, 32, 33, 34, 35, 36, 37, 38, 39, 40, 41, 42, 43, 53, 54, 55, 56, 57, 58, 59] (by decide +kernel) (by decide +kernel)
set_option maxRecDepth 20000 in
theorem gX3_add_X3_matching : GoodIn wsX3_add (wsV RX3 32 RX3 yX3_matching wsX3_matching) := goodIn_app (goodIn_of _ (by decide +kernel)) ggX3_add_X3_matching
set_option maxRecDepth 20000 in
theorem ggX3_add_X1_insert : GoodIn wsX3_add wsX1_insert := goodIn_r _ [47, 34, 39, 48, 49, 50, 51, 52, 21, 22, 23, 24, 25, 26, 27, 28, 29, 30, 31, 32, 33, 35, 36, 37, 38, 57, 58, 59] (by decide +kernel) (by decide +kernel)
set_option maxRecDepth 20000 in
theorem gX3_add_X1_insert : GoodIn wsX3_add (wsV RX3 40 RX1 yX1_insert wsX1_insert) := goodIn_app (goodIn_of _ (by decide +kernel)) ggX3_add_X1_insert
theorem dX3_add_0 : decode cX3_add 0 = .ok (.aload_n 0, 1) := by decide +kernel
theorem dX3_add_1 : decode cX3_add 1 = .ok (.bipush 7, 2) := by decide +kernel
theorem dX3_add_3 : decode cX3_add 3 = .ok (.iload_n 1, 1) := by decide +kernel
theorem dX3_add_4 : decode cX3_add 4 = .ok (.iload_n 2, 1) := by decide +kernel
theorem dX3_add_5 : decode cX3_add 5 = .ok (.iload_n 3, 1) := by decide +kernel
theorem dX3_add_6 : decode cX3_add 6 = .ok (.invokevirtual 32, 3) := by decide +kernel
theorem dX3_add_9 : decode cX3_add 9 = .ok (.ifCond .le 5, 3) := by decide +kernel
theorem dX3_add_12 : decode cX3_add 12 = .ok (.iconst 0, 1) := by decide +kernel
theorem dX3_add_13 : decode cX3_add 13 = .ok (.ireturn, 1) := by decide +kernel
theorem dX3_add_14 : decode cX3_add 14 = .ok (.aload_n 0, 1) := by decide +kernel
theorem dX3_add_15 : decode cX3_add 15 = .ok (.getfield 11, 3) := by decide +kernel
theorem dX3_add_18 : decode cX3_add 18 = .ok (.iconst 0, 1) := by decide +kernel
theorem dX3_add_19 : decode cX3_add 19 = .ok (.aaload, 1) := by decide +kernel
theorem dX3_add_20 : decode cX3_add 20 = .ok (.getfield 36, 3) := by decide +kernel
theorem dX3_add_23 : decode cX3_add 23 = .ok (.sipush 700, 3) := by decide +kernel
theorem dX3_add_26 : decode cX3_add 26 = .ok (.if_icmp .lt 6, 3) := by decide +kernel
theorem dX3_add_29 : decode cX3_add 29 = .ok (.bipush (-2), 2) := by decide +kernel
theorem dX3_add_31 : decode cX3_add 31 = .ok (.ireturn, 1) := by decide +kernel
theorem dX3_add_32 : decode cX3_add 32 = .ok (.iconst 0, 1) := by decide +kernel
theorem dX3_add_33 : decode cX3_add 33 = .ok (.istore 4, 2) := by decide +kernel
theorem dX3_add_35 : decode cX3_add 35 = .ok (.iload 4, 2) := by decide +kernel
theorem dX3_add_37 : decode cX3_add 37 = .ok (.aload_n 0, 1) := by decide +kernel
theorem dX3_add_38 : decode cX3_add 38 = .ok (.getfield 11, 3) := by decide +kernel
theorem dX3_add_41 : decode cX3_add 41 = .ok (.arraylength, 1) := by decide +kernel
theorem dX3_add_42 : decode cX3_add 42 = .ok (.if_icmp .ge 22, 3) := by decide +kernel
theorem dX3_add_45 : decode cX3_add 45 = .ok (.aload_n 0, 1) := by decide +kernel
theorem dX3_add_46 : decode cX3_add 46 = .ok (.getfield 11, 3) := by decide +kernel
theorem dX3_add_49 : decode cX3_add 49 = .ok (.iload 4, 2) := by decide +kernel
theorem dX3_add_51 : decode cX3_add 51 = .ok (.aaload, 1) := by decide +kernel
theorem dX3_add_52 : decode cX3_add 52 = .ok (.iload_n 1, 1) := by decide +kernel
theorem dX3_add_53 : decode cX3_add 53 = .ok (.iload_n 2, 1) := by decide +kernel
theorem dX3_add_54 : decode cX3_add 54 = .ok (.iload_n 3, 1) := by decide +kernel
theorem dX3_add_55 : decode cX3_add 55 = .ok (.invokevirtual 40, 3) := by decide +kernel
theorem dX3_add_58 : decode cX3_add 58 = .ok (.iinc 4 1, 3) := by decide +kernel
theorem dX3_add_61 : decode cX3_add 61 = .ok (.goto (-26), 3) := by decide +kernel
theorem dX3_add_64 : decode cX3_add 64 = .ok (.aload_n 0, 1) := by decide +kernel
theorem dX3_add_65 : decode cX3_add 65 = .ok (.dup, 1) := by decide +kernel
theorem dX3_add_66 : decode cX3_add 66 = .ok (.getfield 44, 3) := by decide +kernel
theorem dX3_add_69 : decode cX3_add 69 = .ok (.iconst 1, 1) := by decide +kernel
theorem dX3_add_70 : decode cX3_add 70 = .ok (.iadd, 1) := by decide +kernel
theorem dX3_add_71 : decode cX3_add 71 = .ok (.putfield 44, 3) := by decide +kernel
theorem dX3_add_74 : decode cX3_add 74 = .ok (.iconst 1, 1) := by decide +kernel
theorem dX3_add_75 : decode cX3_add 75 = .ok (.ireturn, 1) := by decide +kernel
set_option maxRecDepth 20000 in
theorem ggX3_remove_X3_removeMatching : GoodIn wsX3_remove wsX3_removeMatching := goodIn_r _ [5, 6, 7, 8, 9, 10, 4, 11, 12, 13, 14, 15, 16, 17, 18, 19, 20, 21, 22, 23, 24, 25, 26, 27, 28, 29, 30, 31, 32, 33, 34, 35, 36, 37, 38, 39, 40, 41, 42, 43, 44, 45, 46, 47, 48, 49, 50, 51, 52, 53, 54, 55, 56, 57, 58, 59, 60, 61, 62, 63, 64, 65, 66] (by decide +kernel) (by decide +kernel)
set_option maxRecDepth 20000 in
theorem gX3_remove_X3_removeMatching : GoodIn wsX3_remove (wsV RX3 47 RX3 yX3_removeMatching wsX3_removeMatching) := goodIn_app (goodIn_of _ (by decide +kernel)) ggX3_remove_X3_removeMatching
theorem dX3_remove_0 : decode cX3_remove 0 = .ok (.aload_n 0, 1) := by decide +kernel
theorem dX3_remove_1 : decode cX3_remove 1 = .ok (.bipush 7, 2) := by decide +kernel
theorem dX3_remove_3 : decode cX3_remove 3 = .ok (.iload_n 1, 1) := by decide +kernel
theorem dX3_remove_4 : decode cX3_remove 4 = .ok (.iload_n 2, 1) := by decide +kernel
theorem dX3_remove_5 : decode cX3_remove 5 = .ok (.iload_n 3, 1) := by decide +kernel
theorem dX3_remove_6 : decode cX3_remove 6 = .ok (.invokevirtual 47, 3) := by decide +kernel
theorem dX3_remove_9 : decode cX3_remove 9 = .ok (.ifCond .le 7, 3) := by decide +kernel
theorem dX3_remove_12 : decode cX3_remove 12 = .ok (.iconst 1, 1) := by decide +kernel
theorem dX3_remove_13 : decode cX3_remove 13 = .ok (.goto 4, 3) := by decide +kernel
theorem dX3_remove_16 : decode cX3_remove 16 = .ok (.iconst 0, 1) := by decide +kernel
theorem dX3_remove_17 : decode cX3_remove 17 = .ok (.ireturn, 1) := by decide +kernel
set_option maxRecDepth 20000 in
theorem ggX3_removeAll_X3_isMask : GoodIn wsX3_removeAll wsX3_isMask := goodIn_r _ [4] (by decide +kernel) (by decide +kernel)
set_option maxRecDepth 20000 in
theorem gX3_removeAll_X3_isMask : GoodIn wsX3_removeAll (va_wsS RX3 50 yX3_isMask wsX3_isMask) := goodIn_app (goodIn_of _ (by decide +kernel)) ggX3_removeAll_X3_isMask
set_option maxRecDepth 20000 in
theorem ggX3_removeAll_X3_removeMatching : GoodIn wsX3_removeAll wsX3_removeMatching := goodIn_r _ [8, 9, 10, 11, 12, 13, 3, 14, 15, 16, 17, 18, 19, 20, 21, 22, 23, 24, 25, 26, 27, 28, 29, 30, 31, 32, 33, 34, 35, 36, 37, 38, 39, 40, 41, 42, 43, 44, 45, 46, 47, 48, 49, 50, 51, 52, 53, 54, 55, 56, 57, 58, 59, 60, 61, 62, 63, 64, 65, 66, 67, 68, 69] (by decide +kernel) (by decide +kernel)
set_option maxRecDepth 20000 in
theorem gX3_removeAll_X3_removeMatching : GoodIn wsX3_removeAll (wsV RX3 47 RX3 yX3_removeMatching wsX3_removeMatching) := goodIn_app (goodIn_of _ (by decide +kernel)) ggX3_removeAll_X3_removeMatching
theorem dX3_removeAll_0 : decode cX3_removeAll 0 = .ok (.iload_n 1, 1) := by decide +kernel
theorem dX3_removeAll_1 : decode cX3_removeAll 1 = .ok (.invokestatic 50, 3) := by decide +kernel
theorem dX3_removeAll_4 : decode cX3_removeAll 4 = .ok (.ifCond .eq 15, 3) := by decide +kernel
theorem dX3_removeAll_7 : decode cX3_removeAll 7 = .ok (.aload_n 0, 1) := by decide +kernel
theorem dX3_removeAll_8 : decode cX3_removeAll 8 = .ok (.iload_n 1, 1) := by decide +kernel
theorem dX3_removeAll_9 : decode cX3_removeAll 9 = .ok (.iload_n 2, 1) := by decide +kernel
theorem dX3_removeAll_10 : decode cX3_removeAll 10 = .ok (.iload_n 3, 1) := by decide +kernel
theorem dX3_removeAll_11 : decode cX3_removeAll 11 = .ok (.iload 4, 2) := by decide +kernel
theorem dX3_removeAll_13 : decode cX3_removeAll 13 = .ok (.invokevirtual 47, 3) := by decide +kernel
theorem dX3_removeAll_16 : decode cX3_removeAll 16 = .ok (.goto 4, 3) := by decide +kernel
theorem dX3_removeAll_19 : decode cX3_removeAll 19 = .ok (.iconst (-1), 1) := by decide +kernel
theorem dX3_removeAll_20 : decode cX3_removeAll 20 = .ok (.ireturn, 1) := by decide +kernel
set_option maxRecDepth 20000 in
theorem ggX3_holds_X3_matching : GoodIn wsX3_holds wsX3_matching := goodIn_r _ [5, 6, 7, 8, 4, 9, 10, 11, 12, 13, 14, 15, 16, 17, 18, 19, 20, 21, 22, 23, 24, 25, 26, 27, 28, 29, 30, 31, 32, 33, 34, 35, 36, 37, 38, 39, 40, 41, 42, 43, 44, 45, 46, 47, 48, 49] (by decide +kernel) (by decide +kernel)
set_option maxRecDepth 20000 in
theorem gX3_holds_X3_matching : GoodIn wsX3_holds (wsV RX3 32 RX3 yX3_matching wsX3_matching) := goodIn_app (goodIn_of _ (by decide +kernel)) ggX3_holds_X3_matching
theorem dX3_holds_0 : decode cX3_holds 0 = .ok (.aload_n 0, 1) := by decide +kernel
theorem dX3_holds_1 : decode cX3_holds 1 = .ok (.bipush 7, 2) := by decide +kernel
theorem dX3_holds_3 : decode cX3_holds 3 = .ok (.iload_n 1, 1) := by decide +kernel
theorem dX3_holds_4 : decode cX3_holds 4 = .ok (.iload_n 2, 1) := by decide +kernel
theorem dX3_holds_5 : decode cX3_holds 5 = .ok (.iload_n 3, 1) := by decide +kernel
theorem dX3_holds_6 : decode cX3_holds 6 = .ok (.invokevirtual 32, 3) := by decide +kernel
theorem dX3_holds_9 : decode cX3_holds 9 = .ok (.ifCond .le 7, 3) := by decide +kernel
theorem dX3_holds_12 : decode cX3_holds 12 = .ok (.iconst 1, 1) := by decide +kernel
theorem dX3_holds_13 : decode cX3_holds 13 = .ok (.goto 4, 3) := by decide +kernel
theorem dX3_holds_16 : decode cX3_holds 16 = .ok (.iconst 0, 1) := by decide +kernel
theorem dX3_holds_17 : decode cX3_holds 17 = .ok (.ireturn, 1) := by decide +kernel
set_option maxRecDepth 20000 in
theorem ggX3_open_X3_isMask : GoodIn wsX3_open wsX3_isMask := goodIn_r _ [7] (by decide +kernel) (by decide +kernel)
set_option maxRecDepth 20000 in
theorem gX3_open_X3_isMask : GoodIn wsX3_open (va_wsS RX3 50 yX3_isMask wsX3_isMask) := goodIn_app (goodIn_of _ (by decide +kernel)) ggX3_open_X3_isMask
set_option maxRecDepth 20000 in
theorem ggX3_open_X3_startOf : GoodIn wsX3_open wsX3_startOf := goodIn_r _ [11, 12, 2, 13, 14, 15, 16, 17, 18, 19, 20, 21, 22, 23, 24, 25, 26, 27, 28, 29, 30, 31, 32, 33, 34, 35, 36, 37, 38, 39, 55, 56, 57, 58, 65, 66, 67] (by decide +kernel) (by decide +kernel)
set_option maxRecDepth 20000 in
theorem gX3_open_X3_startOf : GoodIn wsX3_open (wsV RX3 58 RX3 yX3_startOf wsX3_startOf) := goodIn_app (goodIn_of _ (by decide +kernel)) ggX3_open_X3_startOf
set_option maxRecDepth 20000 in
theorem ggX3_open_X3_endOf : GoodIn wsX3_open wsX3_endOf := goodIn_r _ [43, 12, 2, 13, 14, 15, 16, 17, 18, 19, 20, 21, 22, 23, 24, 25, 26, 27, 28, 29, 30, 31, 32, 33, 34, 35, 36, 37, 38, 39, 55, 56, 57, 58, 65, 66, 67] (by decide +kernel) (by decide +kernel)
set_option maxRecDepth 20000 in
theorem gX3_open_X3_endOf : GoodIn wsX3_open (wsV RX3 61 RX3 yX3_endOf wsX3_endOf) := goodIn_app (goodIn_of _ (by decide +kernel)) ggX3_open_X3_endOf
set_option maxRecDepth 20000 in
theorem ggX3_open_X0_begin : GoodIn wsX3_open wsX0_begin := goodIn_r _ [48, 49, 50, 51, 52, 53, 54, 59, 60, 61, 62, 63, 64] (by decide +kernel) (by decide +kernel)
set_option maxRecDepth 20000 in
theorem gX3_open_X0_begin : GoodIn wsX3_open (wsV RX3 68 RX0 yX0_begin wsX0_begin) := goodIn_app (goodIn_of _ (by decide +kernel)) ggX3_open_X0_begin
theorem dX3_open_0 : decode cX3_open 0 = .ok (.iload_n 1, 1) := by decide +kernel
theorem dX3_open_1 : decode cX3_open 1 = .ok (.invokestatic 50, 3) := by decide +kernel
theorem dX3_open_4 : decode cX3_open 4 = .ok (.ifCond .ne 5, 3) := by decide +kernel
theorem dX3_open_7 : decode cX3_open 7 = .ok (.iconst (-1), 1) := by decide +kernel
theorem dX3_open_8 : decode cX3_open 8 = .ok (.ireturn, 1) := by decide +kernel
theorem dX3_open_9 : decode cX3_open 9 = .ok (.iconst 0, 1) := by decide +kernel
theorem dX3_open_10 : decode cX3_open 10 = .ok (.istore 5, 2) := by decide +kernel
theorem dX3_open_12 : decode cX3_open 12 = .ok (.iload 5, 2) := by decide +kernel
theorem dX3_open_14 : decode cX3_open 14 = .ok (.aload_n 0, 1) := by decide +kernel
theorem dX3_open_15 : decode cX3_open 15 = .ok (.getfield 20, 3) := by decide +kernel
theorem dX3_open_18 : decode cX3_open 18 = .ok (.arraylength, 1) := by decide +kernel
theorem dX3_open_19 : decode cX3_open 19 = .ok (.if_icmp .ge 70, 3) := by decide +kernel
theorem dX3_open_22 : decode cX3_open 22 = .ok (.aload_n 0, 1) := by decide +kernel
theorem dX3_open_23 : decode cX3_open 23 = .ok (.getfield 20, 3) := by decide +kernel
theorem dX3_open_26 : decode cX3_open 26 = .ok (.iload 5, 2) := by decide +kernel
theorem dX3_open_28 : decode cX3_open 28 = .ok (.aaload, 1) := by decide +kernel
theorem dX3_open_29 : decode cX3_open 29 = .ok (.getfield 54, 3) := by decide +kernel
theorem dX3_open_32 : decode cX3_open 32 = .ok (.ifCond .ne 51, 3) := by decide +kernel
theorem dX3_open_35 : decode cX3_open 35 = .ok (.aload_n 0, 1) := by decide +kernel
theorem dX3_open_36 : decode cX3_open 36 = .ok (.iload_n 1, 1) := by decide +kernel
theorem dX3_open_37 : decode cX3_open 37 = .ok (.iload_n 2, 1) := by decide +kernel
theorem dX3_open_38 : decode cX3_open 38 = .ok (.iload_n 3, 1) := by decide +kernel
theorem dX3_open_39 : decode cX3_open 39 = .ok (.iload 4, 2) := by decide +kernel
theorem dX3_open_41 : decode cX3_open 41 = .ok (.invokevirtual 58, 3) := by decide +kernel
theorem dX3_open_44 : decode cX3_open 44 = .ok (.istore 6, 2) := by decide +kernel
theorem dX3_open_46 : decode cX3_open 46 = .ok (.aload_n 0, 1) := by decide +kernel
theorem dX3_open_47 : decode cX3_open 47 = .ok (.iload_n 1, 1) := by decide +kernel
theorem dX3_open_48 : decode cX3_open 48 = .ok (.iload_n 2, 1) := by decide +kernel
theorem dX3_open_49 : decode cX3_open 49 = .ok (.iload_n 3, 1) := by decide +kernel
theorem dX3_open_50 : decode cX3_open 50 = .ok (.iload 4, 2) := by decide +kernel
theorem dX3_open_52 : decode cX3_open 52 = .ok (.invokevirtual 61, 3) := by decide +kernel
theorem dX3_open_55 : decode cX3_open 55 = .ok (.istore 7, 2) := by decide +kernel
theorem dX3_open_57 : decode cX3_open 57 = .ok (.aload_n 0, 1) := by decide +kernel
theorem dX3_open_58 : decode cX3_open 58 = .ok (.getfield 20, 3) := by decide +kernel
theorem dX3_open_61 : decode cX3_open 61 = .ok (.iload 5, 2) := by decide +kernel
theorem dX3_open_63 : decode cX3_open 63 = .ok (.aaload, 1) := by decide +kernel
theorem dX3_open_64 : decode cX3_open 64 = .ok (.getstatic 64, 3) := by decide +kernel
theorem dX3_open_67 : decode cX3_open 67 = .ok (.iload_n 1, 1) := by decide +kernel
theorem dX3_open_68 : decode cX3_open 68 = .ok (.iaload, 1) := by decide +kernel
theorem dX3_open_69 : decode cX3_open 69 = .ok (.iload 6, 2) := by decide +kernel
theorem dX3_open_71 : decode cX3_open 71 = .ok (.iload 7, 2) := by decide +kernel
theorem dX3_open_73 : decode cX3_open 73 = .ok (.aload_n 0, 1) := by decide +kernel
theorem dX3_open_74 : decode cX3_open 74 = .ok (.getfield 44, 3) := by decide +kernel
theorem dX3_open_77 : decode cX3_open 77 = .ok (.invokevirtual 68, 3) := by decide +kernel
theorem dX3_open_80 : decode cX3_open 80 = .ok (.iload 5, 2) := by decide +kernel
theorem dX3_open_82 : decode cX3_open 82 = .ok (.ireturn, 1) := by decide +kernel
theorem dX3_open_83 : decode cX3_open 83 = .ok (.iinc 5 1, 3) := by decide +kernel
theorem dX3_open_86 : decode cX3_open 86 = .ok (.goto (-74), 3) := by decide +kernel
theorem dX3_open_89 : decode cX3_open 89 = .ok (.bipush (-2), 2) := by decide +kernel
theorem dX3_open_91 : decode cX3_open 91 = .ok (.ireturn, 1) := by decide +kernel
set_option maxRecDepth 20000 in
theorem ggX3_next_X3_isOpenCursor : GoodIn wsX3_next wsX3_isOpenCursor := goodIn_r _ [6, 1, 20, 21, 22, 23, 24, 25, 26, 27, 28, 29] (by decide +kernel) (by decide +kernel)
set_option maxRecDepth 20000 in
theorem gX3_next_X3_isOpenCursor : GoodIn wsX3_next (wsV RX3 72 RX3 yX3_isOpenCursor wsX3_isOpenCursor) := goodIn_app (goodIn_of _ (by decide +kernel)) ggX3_next_X3_isOpenCursor
set_option maxRecDepth 20000 in
theorem ggX3_next_X3_isStale : GoodIn wsX3_next wsX3_isStale := goodIn_r _ [10, 1, 11, 20, 21, 22, 23, 24, 25, 26, 27, 28, 29] (by decide +kernel) (by decide +kernel)
set_option maxRecDepth 20000 in
theorem gX3_next_X3_isStale : GoodIn wsX3_next (wsV RX3 75 RX3 yX3_isStale wsX3_isStale) := goodIn_app (goodIn_of _ (by decide +kernel)) ggX3_next_X3_isStale
set_option maxRecDepth 20000 in
theorem ggX3_next_X0_goOn : GoodIn wsX3_next wsX0_goOn := goodIn_r _ [16, 17, 18, 19, 24, 25, 26, 27, 28, 29] (by decide +kernel) (by decide +kernel)
set_option maxRecDepth 20000 in
theorem gX3_next_X0_goOn : GoodIn wsX3_next (wsV RX3 78 RX0 yX0_goOn wsX0_goOn) := goodIn_app (goodIn_of _ (by decide +kernel)) ggX3_next_X0_goOn
theorem dX3_next_0 : decode cX3_next 0 = .ok (.aload_n 0, 1) := by decide +kernel
theorem dX3_next_1 : decode cX3_next 1 = .ok (.iload_n 1, 1) := by decide +kernel
theorem dX3_next_2 : decode cX3_next 2 = .ok (.invokevirtual 72, 3) := by decide +kernel
theorem dX3_next_5 : decode cX3_next 5 = .ok (.ifCond .ne 5, 3) := by decide +kernel
theorem dX3_next_8 : decode cX3_next 8 = .ok (.iconst (-1), 1) := by decide +kernel
theorem dX3_next_9 : decode cX3_next 9 = .ok (.ireturn, 1) := by decide +kernel
theorem dX3_next_10 : decode cX3_next 10 = .ok (.aload_n 0, 1) := by decide +kernel
theorem dX3_next_11 : decode cX3_next 11 = .ok (.iload_n 1, 1) := by decide +kernel
theorem dX3_next_12 : decode cX3_next 12 = .ok (.invokevirtual 75, 3) := by decide +kernel
theorem dX3_next_15 : decode cX3_next 15 = .ok (.ifCond .eq 8, 3) := by decide +kernel
theorem dX3_next_18 : decode cX3_next 18 = .ok (.bipush (-3), 2) := by decide +kernel
theorem dX3_next_20 : decode cX3_next 20 = .ok (.goto 12, 3) := by decide +kernel
theorem dX3_next_23 : decode cX3_next 23 = .ok (.aload_n 0, 1) := by decide +kernel
theorem dX3_next_24 : decode cX3_next 24 = .ok (.getfield 20, 3) := by decide +kernel
theorem dX3_next_27 : decode cX3_next 27 = .ok (.iload_n 1, 1) := by decide +kernel
theorem dX3_next_28 : decode cX3_next 28 = .ok (.aaload, 1) := by decide +kernel
theorem dX3_next_29 : decode cX3_next 29 = .ok (.invokevirtual 78, 3) := by decide +kernel
theorem dX3_next_32 : decode cX3_next 32 = .ok (.ireturn, 1) := by decide +kernel
set_option maxRecDepth 20000 in
theorem ggX3_seek_X3_isOpenCursor : GoodIn wsX3_seek wsX3_isOpenCursor := goodIn_r _ [7, 1, 43, 44, 45, 46, 47, 48, 49, 50, 51, 52] (by decide +kernel) (by decide +kernel)
set_option maxRecDepth 20000 in
theorem gX3_seek_X3_isOpenCursor : GoodIn wsX3_seek (wsV RX3 72 RX3 yX3_isOpenCursor wsX3_isOpenCursor) := goodIn_app (goodIn_of _ (by decide +kernel)) ggX3_seek_X3_isOpenCursor
set_option maxRecDepth 20000 in
theorem ggX3_seek_X3_isStale : GoodIn wsX3_seek wsX3_isStale := goodIn_r _ [11, 1, 12, 43, 44, 45, 46, 47, 48, 49, 50, 51, 52] (by decide +kernel) (by decide +kernel)
set_option maxRecDepth 20000 in
theorem gX3_seek_X3_isStale : GoodIn wsX3_seek (wsV RX3 75 RX3 yX3_isStale wsX3_isStale) := goodIn_app (goodIn_of _ (by decide +kernel)) ggX3_seek_X3_isStale
set_option maxRecDepth 20000 in
theorem ggX3_seek_X1_placeTold : GoodIn wsX3_seek wsX1_placeTold := goodIn_r _ [17, 18, 19, 20, 21, 16, 22, 23, 53, 54, 55] (by decide +kernel) (by decide +kernel)
set_option maxRecDepth 20000 in
theorem gX3_seek_X1_placeTold : GoodIn wsX3_seek (wsV RX3 85 RX1 yX1_placeTold wsX1_placeTold) := goodIn_app (goodIn_of _ (by decide +kernel)) ggX3_seek_X1_placeTold
set_option maxRecDepth 20000 in
theorem ggX3_seek_X0_skipTo : GoodIn wsX3_seek wsX0_skipTo := goodIn_r _ [28, 29, 30, 31, 32, 33, 34, 35, 36, 37, 47, 48, 49, 50, 51, 52] (by decide +kernel) (by decide +kernel)
set_option maxRecDepth 20000 in
theorem gX3_seek_X0_skipTo : GoodIn wsX3_seek (wsV RX3 89 RX0 yX0_skipTo wsX0_skipTo) := goodIn_app (goodIn_of _ (by decide +kernel)) ggX3_seek_X0_skipTo
set_option maxRecDepth 20000 in
theorem ggX3_seek_X0_goOn : GoodIn wsX3_seek wsX0_goOn := goodIn_r _ [41, 29, 34, 42, 47, 48, 49, 50, 51, 52] (by decide +kernel) (by decide +kernel)
set_option maxRecDepth 20000 in
theorem gX3_seek_X0_goOn : GoodIn wsX3_seek (wsV RX3 78 RX0 yX0_goOn wsX0_goOn) := goodIn_app (goodIn_of _ (by decide +kernel)) ggX3_seek_X0_goOn
theorem dX3_seek_0 : decode cX3_seek 0 = .ok (.aload_n 0, 1) := by decide +kernel
theorem dX3_seek_1 : decode cX3_seek 1 = .ok (.iload_n 1, 1) := by decide +kernel
theorem dX3_seek_2 : decode cX3_seek 2 = .ok (.invokevirtual 72, 3) := by decide +kernel
theorem dX3_seek_5 : decode cX3_seek 5 = .ok (.ifCond .ne 5, 3) := by decide +kernel
theorem dX3_seek_8 : decode cX3_seek 8 = .ok (.iconst (-1), 1) := by decide +kernel
theorem dX3_seek_9 : decode cX3_seek 9 = .ok (.ireturn, 1) := by decide +kernel
theorem dX3_seek_10 : decode cX3_seek 10 = .ok (.aload_n 0, 1) := by decide +kernel
theorem dX3_seek_11 : decode cX3_seek 11 = .ok (.iload_n 1, 1) := by decide +kernel
theorem dX3_seek_12 : decode cX3_seek 12 = .ok (.invokevirtual 75, 3) := by decide +kernel
theorem dX3_seek_15 : decode cX3_seek 15 = .ok (.ifCond .eq 6, 3) := by decide +kernel
theorem dX3_seek_18 : decode cX3_seek 18 = .ok (.bipush (-3), 2) := by decide +kernel
theorem dX3_seek_20 : decode cX3_seek 20 = .ok (.ireturn, 1) := by decide +kernel
theorem dX3_seek_21 : decode cX3_seek 21 = .ok (.aload_n 0, 1) := by decide +kernel
theorem dX3_seek_22 : decode cX3_seek 22 = .ok (.getfield 20, 3) := by decide +kernel
theorem dX3_seek_25 : decode cX3_seek 25 = .ok (.iload_n 1, 1) := by decide +kernel
theorem dX3_seek_26 : decode cX3_seek 26 = .ok (.aaload, 1) := by decide +kernel
theorem dX3_seek_27 : decode cX3_seek 27 = .ok (.astore 5, 2) := by decide +kernel
theorem dX3_seek_29 : decode cX3_seek 29 = .ok (.aload 5, 2) := by decide +kernel
theorem dX3_seek_31 : decode cX3_seek 31 = .ok (.aload_n 0, 1) := by decide +kernel
theorem dX3_seek_32 : decode cX3_seek 32 = .ok (.getfield 11, 3) := by decide +kernel
theorem dX3_seek_35 : decode cX3_seek 35 = .ok (.aload 5, 2) := by decide +kernel
theorem dX3_seek_37 : decode cX3_seek 37 = .ok (.getfield 82, 3) := by decide +kernel
theorem dX3_seek_40 : decode cX3_seek 40 = .ok (.aaload, 1) := by decide +kernel
theorem dX3_seek_41 : decode cX3_seek 41 = .ok (.iconst 3, 1) := by decide +kernel
theorem dX3_seek_42 : decode cX3_seek 42 = .ok (.iload_n 2, 1) := by decide +kernel
theorem dX3_seek_43 : decode cX3_seek 43 = .ok (.iload_n 3, 1) := by decide +kernel
theorem dX3_seek_44 : decode cX3_seek 44 = .ok (.iload 4, 2) := by decide +kernel
theorem dX3_seek_46 : decode cX3_seek 46 = .ok (.iconst 0, 1) := by decide +kernel
theorem dX3_seek_47 : decode cX3_seek 47 = .ok (.invokevirtual 85, 3) := by decide +kernel
theorem dX3_seek_50 : decode cX3_seek 50 = .ok (.invokevirtual 89, 3) := by decide +kernel
theorem dX3_seek_53 : decode cX3_seek 53 = .ok (.aload 5, 2) := by decide +kernel
theorem dX3_seek_55 : decode cX3_seek 55 = .ok (.invokevirtual 78, 3) := by decide +kernel
theorem dX3_seek_58 : decode cX3_seek 58 = .ok (.ireturn, 1) := by decide +kernel
set_option maxRecDepth 20000 in
theorem ggX3_part_X3_isOpenCursor : GoodIn wsX3_part wsX3_isOpenCursor := goodIn_r _ [7, 1, 21, 22, 23, 24, 25, 26, 27, 28, 29, 30] (by decide +kernel) (by decide +kernel)
set_option maxRecDepth 20000 in
theorem gX3_part_X3_isOpenCursor : GoodIn wsX3_part (wsV RX3 72 RX3 yX3_isOpenCursor wsX3_isOpenCursor) := goodIn_app (goodIn_of _ (by decide +kernel)) ggX3_part_X3_isOpenCursor
set_option maxRecDepth 20000 in
theorem ggX3_part_X3_isStale : GoodIn wsX3_part wsX3_isStale := goodIn_r _ [11, 1, 12, 21, 22, 23, 24, 25, 26, 27, 28, 29, 30] (by decide +kernel) (by decide +kernel)
set_option maxRecDepth 20000 in
theorem gX3_part_X3_isStale : GoodIn wsX3_part (wsV RX3 75 RX3 yX3_isStale wsX3_isStale) := goodIn_app (goodIn_of _ (by decide +kernel)) ggX3_part_X3_isStale
set_option maxRecDepth 20000 in
theorem ggX3_part_X1_partAt : GoodIn wsX3_part wsX1_partAt := goodIn_r _ [17, 18, 19, 20, 31, 32, 33] (by decide +kernel) (by decide +kernel)
set_option maxRecDepth 20000 in
theorem gX3_part_X1_partAt : GoodIn wsX3_part (wsV RX3 98 RX1 yX1_partAt wsX1_partAt) := goodIn_app (goodIn_of _ (by decide +kernel)) ggX3_part_X1_partAt
theorem dX3_part_0 : decode cX3_part 0 = .ok (.aload_n 0, 1) := by decide +kernel
theorem dX3_part_1 : decode cX3_part 1 = .ok (.iload_n 1, 1) := by decide +kernel
theorem dX3_part_2 : decode cX3_part 2 = .ok (.invokevirtual 72, 3) := by decide +kernel
theorem dX3_part_5 : decode cX3_part 5 = .ok (.ifCond .eq 23, 3) := by decide +kernel
theorem dX3_part_8 : decode cX3_part 8 = .ok (.aload_n 0, 1) := by decide +kernel
theorem dX3_part_9 : decode cX3_part 9 = .ok (.iload_n 1, 1) := by decide +kernel
theorem dX3_part_10 : decode cX3_part 10 = .ok (.invokevirtual 75, 3) := by decide +kernel
theorem dX3_part_13 : decode cX3_part 13 = .ok (.ifCond .ne 15, 3) := by decide +kernel
theorem dX3_part_16 : decode cX3_part 16 = .ok (.aload_n 0, 1) := by decide +kernel
theorem dX3_part_17 : decode cX3_part 17 = .ok (.getfield 20, 3) := by decide +kernel
theorem dX3_part_20 : decode cX3_part 20 = .ok (.iload_n 1, 1) := by decide +kernel
theorem dX3_part_21 : decode cX3_part 21 = .ok (.aaload, 1) := by decide +kernel
theorem dX3_part_22 : decode cX3_part 22 = .ok (.getfield 92, 3) := by decide +kernel
theorem dX3_part_25 : decode cX3_part 25 = .ok (.ifCond .ne 5, 3) := by decide +kernel
theorem dX3_part_28 : decode cX3_part 28 = .ok (.iconst 0, 1) := by decide +kernel
theorem dX3_part_29 : decode cX3_part 29 = .ok (.ireturn, 1) := by decide +kernel
theorem dX3_part_30 : decode cX3_part 30 = .ok (.aload_n 0, 1) := by decide +kernel
theorem dX3_part_31 : decode cX3_part 31 = .ok (.getfield 20, 3) := by decide +kernel
theorem dX3_part_34 : decode cX3_part 34 = .ok (.iload_n 1, 1) := by decide +kernel
theorem dX3_part_35 : decode cX3_part 35 = .ok (.aaload, 1) := by decide +kernel
theorem dX3_part_36 : decode cX3_part 36 = .ok (.astore_n 3, 1) := by decide +kernel
theorem dX3_part_37 : decode cX3_part 37 = .ok (.aload_n 0, 1) := by decide +kernel
theorem dX3_part_38 : decode cX3_part 38 = .ok (.getfield 11, 3) := by decide +kernel
theorem dX3_part_41 : decode cX3_part 41 = .ok (.aload_n 3, 1) := by decide +kernel
theorem dX3_part_42 : decode cX3_part 42 = .ok (.getfield 82, 3) := by decide +kernel
theorem dX3_part_45 : decode cX3_part 45 = .ok (.aaload, 1) := by decide +kernel
theorem dX3_part_46 : decode cX3_part 46 = .ok (.aload_n 3, 1) := by decide +kernel
theorem dX3_part_47 : decode cX3_part 47 = .ok (.getfield 95, 3) := by decide +kernel
theorem dX3_part_50 : decode cX3_part 50 = .ok (.iconst 1, 1) := by decide +kernel
theorem dX3_part_51 : decode cX3_part 51 = .ok (.isub, 1) := by decide +kernel
theorem dX3_part_52 : decode cX3_part 52 = .ok (.iload_n 2, 1) := by decide +kernel
theorem dX3_part_53 : decode cX3_part 53 = .ok (.invokevirtual 98, 3) := by decide +kernel
theorem dX3_part_56 : decode cX3_part 56 = .ok (.ireturn, 1) := by decide +kernel
set_option maxRecDepth 20000 in
theorem ggX3_close_X3_isOpenCursor : GoodIn wsX3_close wsX3_isOpenCursor := goodIn_r _ [6, 1, 7, 8, 9, 10, 11, 12, 13, 14, 15, 16] (by decide +kernel) (by decide +kernel)
set_option maxRecDepth 20000 in
theorem gX3_close_X3_isOpenCursor : GoodIn wsX3_close (wsV RX3 72 RX3 yX3_isOpenCursor wsX3_isOpenCursor) := goodIn_app (goodIn_of _ (by decide +kernel)) ggX3_close_X3_isOpenCursor
theorem dX3_close_0 : decode cX3_close 0 = .ok (.aload_n 0, 1) := by decide +kernel
theorem dX3_close_1 : decode cX3_close 1 = .ok (.iload_n 1, 1) := by decide +kernel
theorem dX3_close_2 : decode cX3_close 2 = .ok (.invokevirtual 72, 3) := by decide +kernel
theorem dX3_close_5 : decode cX3_close 5 = .ok (.ifCond .ne 5, 3) := by decide +kernel
theorem dX3_close_8 : decode cX3_close 8 = .ok (.iconst 0, 1) := by decide +kernel
theorem dX3_close_9 : decode cX3_close 9 = .ok (.ireturn, 1) := by decide +kernel
theorem dX3_close_10 : decode cX3_close 10 = .ok (.aload_n 0, 1) := by decide +kernel
theorem dX3_close_11 : decode cX3_close 11 = .ok (.getfield 20, 3) := by decide +kernel
theorem dX3_close_14 : decode cX3_close 14 = .ok (.iload_n 1, 1) := by decide +kernel
theorem dX3_close_15 : decode cX3_close 15 = .ok (.aaload, 1) := by decide +kernel
theorem dX3_close_16 : decode cX3_close 16 = .ok (.iconst 0, 1) := by decide +kernel
theorem dX3_close_17 : decode cX3_close 17 = .ok (.putfield 54, 3) := by decide +kernel
theorem dX3_close_20 : decode cX3_close 20 = .ok (.iconst 1, 1) := by decide +kernel
theorem dX3_close_21 : decode cX3_close 21 = .ok (.ireturn, 1) := by decide +kernel
set_option maxRecDepth 20000 in
theorem ggX3_many_X3_isMask : GoodIn wsX3_many wsX3_isMask := goodIn_r _ [4] (by decide +kernel) (by decide +kernel)
set_option maxRecDepth 20000 in
theorem gX3_many_X3_isMask : GoodIn wsX3_many (va_wsS RX3 50 yX3_isMask wsX3_isMask) := goodIn_app (goodIn_of _ (by decide +kernel)) ggX3_many_X3_isMask
set_option maxRecDepth 20000 in
theorem ggX3_many_X3_matching : GoodIn wsX3_many wsX3_matching := goodIn_r _ [8, 9, 10, 11, 3, 12, 13, 14, 15, 16, 17, 18, 19, 20, 21, 22, 23, 24, 25, 26, 27, 28, 29, 30, 31, 32, 33, 34, 35, 36, 37, 38, 39, 40, 41, 42, 43, 44, 45, 46, 47, 48, 49, 50, 51, 52] (by decide +kernel) (by decide +kernel)
set_option maxRecDepth 20000 in
theorem gX3_many_X3_matching : GoodIn wsX3_many (wsV RX3 32 RX3 yX3_matching wsX3_matching) := goodIn_app (goodIn_of _ (by decide +kernel)) ggX3_many_X3_matching
theorem dX3_many_0 : decode cX3_many 0 = .ok (.iload_n 1, 1) := by decide +kernel
theorem dX3_many_1 : decode cX3_many 1 = .ok (.invokestatic 50, 3) := by decide +kernel
theorem dX3_many_4 : decode cX3_many 4 = .ok (.ifCond .eq 15, 3) := by decide +kernel
theorem dX3_many_7 : decode cX3_many 7 = .ok (.aload_n 0, 1) := by decide +kernel
theorem dX3_many_8 : decode cX3_many 8 = .ok (.iload_n 1, 1) := by decide +kernel
theorem dX3_many_9 : decode cX3_many 9 = .ok (.iload_n 2, 1) := by decide +kernel
theorem dX3_many_10 : decode cX3_many 10 = .ok (.iload_n 3, 1) := by decide +kernel
theorem dX3_many_11 : decode cX3_many 11 = .ok (.iload 4, 2) := by decide +kernel
theorem dX3_many_13 : decode cX3_many 13 = .ok (.invokevirtual 32, 3) := by decide +kernel
theorem dX3_many_16 : decode cX3_many 16 = .ok (.goto 4, 3) := by decide +kernel
theorem dX3_many_19 : decode cX3_many 19 = .ok (.iconst (-1), 1) := by decide +kernel
theorem dX3_many_20 : decode cX3_many 20 = .ok (.ireturn, 1) := by decide +kernel
set_option maxRecDepth 20000 in
theorem ggX3_at_X3_isOrder : GoodIn wsX3_at wsX3_isOrder := goodIn_r _ [5] (by decide +kernel) (by decide +kernel)
set_option maxRecDepth 20000 in
theorem gX3_at_X3_isOrder : GoodIn wsX3_at (va_wsS RX3 102 yX3_isOrder wsX3_isOrder) := goodIn_app (goodIn_of _ (by decide +kernel)) ggX3_at_X3_isOrder
set_option maxRecDepth 20000 in
theorem ggX3_at_X1_partAt : GoodIn wsX3_at wsX1_partAt := goodIn_r _ [10, 11, 12, 13, 18, 19, 20] (by decide +kernel) (by decide +kernel)
set_option maxRecDepth 20000 in
theorem gX3_at_X1_partAt : GoodIn wsX3_at (wsV RX3 98 RX1 yX1_partAt wsX1_partAt) := goodIn_app (goodIn_of _ (by decide +kernel)) ggX3_at_X1_partAt
theorem dX3_at_0 : decode cX3_at 0 = .ok (.iload_n 1, 1) := by decide +kernel
theorem dX3_at_1 : decode cX3_at 1 = .ok (.invokestatic 102, 3) := by decide +kernel
theorem dX3_at_4 : decode cX3_at 4 = .ok (.ifCond .eq 17, 3) := by decide +kernel
theorem dX3_at_7 : decode cX3_at 7 = .ok (.aload_n 0, 1) := by decide +kernel
theorem dX3_at_8 : decode cX3_at 8 = .ok (.getfield 11, 3) := by decide +kernel
theorem dX3_at_11 : decode cX3_at 11 = .ok (.iload_n 1, 1) := by decide +kernel
theorem dX3_at_12 : decode cX3_at 12 = .ok (.aaload, 1) := by decide +kernel
theorem dX3_at_13 : decode cX3_at 13 = .ok (.iload_n 2, 1) := by decide +kernel
theorem dX3_at_14 : decode cX3_at 14 = .ok (.iload_n 3, 1) := by decide +kernel
theorem dX3_at_15 : decode cX3_at 15 = .ok (.invokevirtual 98, 3) := by decide +kernel
theorem dX3_at_18 : decode cX3_at 18 = .ok (.goto 4, 3) := by decide +kernel
theorem dX3_at_21 : decode cX3_at 21 = .ok (.iconst 0, 1) := by decide +kernel
theorem dX3_at_22 : decode cX3_at 22 = .ok (.ireturn, 1) := by decide +kernel
set_option maxRecDepth 20000 in
theorem ggX3_before_X3_isOrder : GoodIn wsX3_before wsX3_isOrder := goodIn_r _ [5] (by decide +kernel) (by decide +kernel)
set_option maxRecDepth 20000 in
theorem gX3_before_X3_isOrder : GoodIn wsX3_before (va_wsS RX3 102 yX3_isOrder wsX3_isOrder) := goodIn_app (goodIn_of _ (by decide +kernel)) ggX3_before_X3_isOrder
set_option maxRecDepth 20000 in
theorem ggX3_before_X1_placeOf : GoodIn wsX3_before wsX1_placeOf := goodIn_r _ [10, 11, 12, 13, 9, 14, 15, 16, 17, 18, 19, 20, 21, 22, 23, 24, 25, 30, 31, 32] (by decide +kernel) (by decide +kernel)
set_option maxRecDepth 20000 in
theorem gX3_before_X1_placeOf : GoodIn wsX3_before (wsV RX3 105 RX1 yX1_placeOf wsX1_placeOf) := goodIn_app (goodIn_of _ (by decide +kernel)) ggX3_before_X1_placeOf
theorem dX3_before_0 : decode cX3_before 0 = .ok (.iload_n 1, 1) := by decide +kernel
theorem dX3_before_1 : decode cX3_before 1 = .ok (.invokestatic 102, 3) := by decide +kernel
theorem dX3_before_4 : decode cX3_before 4 = .ok (.ifCond .eq 21, 3) := by decide +kernel
theorem dX3_before_7 : decode cX3_before 7 = .ok (.aload_n 0, 1) := by decide +kernel
theorem dX3_before_8 : decode cX3_before 8 = .ok (.getfield 11, 3) := by decide +kernel
theorem dX3_before_11 : decode cX3_before 11 = .ok (.iload_n 1, 1) := by decide +kernel
theorem dX3_before_12 : decode cX3_before 12 = .ok (.aaload, 1) := by decide +kernel
theorem dX3_before_13 : decode cX3_before 13 = .ok (.iconst 3, 1) := by decide +kernel
theorem dX3_before_14 : decode cX3_before 14 = .ok (.iload_n 2, 1) := by decide +kernel
theorem dX3_before_15 : decode cX3_before 15 = .ok (.iload_n 3, 1) := by decide +kernel
theorem dX3_before_16 : decode cX3_before 16 = .ok (.iload 4, 2) := by decide +kernel
theorem dX3_before_18 : decode cX3_before 18 = .ok (.iconst 0, 1) := by decide +kernel
theorem dX3_before_19 : decode cX3_before 19 = .ok (.invokevirtual 105, 3) := by decide +kernel
theorem dX3_before_22 : decode cX3_before 22 = .ok (.goto 4, 3) := by decide +kernel
theorem dX3_before_25 : decode cX3_before 25 = .ok (.iconst (-1), 1) := by decide +kernel
theorem dX3_before_26 : decode cX3_before 26 = .ok (.ireturn, 1) := by decide +kernel
set_option maxRecDepth 20000 in
theorem ggX3_different_X3_isOrder : GoodIn wsX3_different wsX3_isOrder := goodIn_r _ [5] (by decide +kernel) (by decide +kernel)
set_option maxRecDepth 20000 in
theorem gX3_different_X3_isOrder : GoodIn wsX3_different (va_wsS RX3 102 yX3_isOrder wsX3_isOrder) := goodIn_app (goodIn_of _ (by decide +kernel)) ggX3_different_X3_isOrder
set_option maxRecDepth 20000 in
theorem ggX3_different_X1_differentFirsts : GoodIn wsX3_different wsX1_differentFirsts := goodIn_r _ [10, 11, 12, 17, 18, 19] (by decide +kernel) (by decide +kernel)
set_option maxRecDepth 20000 in
theorem gX3_different_X1_differentFirsts : GoodIn wsX3_different (wsV RX3 108 RX1 yX1_differentFirsts wsX1_differentFirsts) := goodIn_app (goodIn_of _ (by decide +kernel)) ggX3_different_X1_differentFirsts
theorem dX3_different_0 : decode cX3_different 0 = .ok (.iload_n 1, 1) := by decide +kernel
theorem dX3_different_1 : decode cX3_different 1 = .ok (.invokestatic 102, 3) := by decide +kernel
theorem dX3_different_4 : decode cX3_different 4 = .ok (.ifCond .eq 15, 3) := by decide +kernel
theorem dX3_different_7 : decode cX3_different 7 = .ok (.aload_n 0, 1) := by decide +kernel
theorem dX3_different_8 : decode cX3_different 8 = .ok (.getfield 11, 3) := by decide +kernel
theorem dX3_different_11 : decode cX3_different 11 = .ok (.iload_n 1, 1) := by decide +kernel
theorem dX3_different_12 : decode cX3_different 12 = .ok (.aaload, 1) := by decide +kernel
theorem dX3_different_13 : decode cX3_different 13 = .ok (.invokevirtual 108, 3) := by decide +kernel
theorem dX3_different_16 : decode cX3_different 16 = .ok (.goto 4, 3) := by decide +kernel
theorem dX3_different_19 : decode cX3_different 19 = .ok (.iconst (-1), 1) := by decide +kernel
theorem dX3_different_20 : decode cX3_different 20 = .ok (.ireturn, 1) := by decide +kernel
set_option maxRecDepth 20000 in
theorem ggX3_chains_X3_endOf : GoodIn wsX3_chains wsX3_endOf := goodIn_r _ [6, 1, 7, 8, 9, 10, 11, 12, 13, 14, 15, 16, 17, 18, 19, 20, 21, 22, 23, 24, 25, 26, 27, 28, 29, 30, 31, 32, 33, 34, 47, 48, 49, 50, 51, 52, 53] (by decide +kernel) (by decide +kernel)
set_option maxRecDepth 20000 in
theorem gX3_chains_X3_endOf : GoodIn wsX3_chains (wsV RX3 61 RX3 yX3_endOf wsX3_endOf) := goodIn_app (goodIn_of _ (by decide +kernel)) ggX3_chains_X3_endOf
set_option maxRecDepth 20000 in
theorem ggX3_chains_X3_startOf : GoodIn wsX3_chains wsX3_startOf := goodIn_r _ [38, 1, 7, 8, 9, 10, 11, 12, 13, 14, 15, 16, 17, 18, 19, 20, 21, 22, 23, 24, 25, 26, 27, 28, 29, 30, 31, 32, 33, 34, 47, 48, 49, 50, 51, 52, 53] (by decide +kernel) (by decide +kernel)
set_option maxRecDepth 20000 in
theorem gX3_chains_X3_startOf : GoodIn wsX3_chains (wsV RX3 58 RX3 yX3_startOf wsX3_startOf) := goodIn_app (goodIn_of _ (by decide +kernel)) ggX3_chains_X3_startOf
set_option maxRecDepth 20000 in
theorem ggX3_chains_X1_partAt : GoodIn wsX3_chains wsX1_partAt := goodIn_r _ [42, 29, 34, 24, 51, 52, 53] (by decide +kernel) (by decide +kernel)
set_option maxRecDepth 20000 in
theorem gX3_chains_X1_partAt : GoodIn wsX3_chains (wsV RX3 98 RX1 yX1_partAt wsX1_partAt) := goodIn_app (goodIn_of _ (by decide +kernel)) ggX3_chains_X1_partAt
set_option maxRecDepth 20000 in
theorem ggX3_chains_X3_matching : GoodIn wsX3_chains wsX3_matching := goodIn_r _ [46, 2, 3, 4, 5, 6, 1, 7, 8, 9, 10, 11, 12, 13, 14, 15, 16, 17, 18, 19, 20, 21, 22, 23, 24, 25, 26, 27, 28, 29, 30, 31, 32, 33, 34, 35, 36, 37, 38, 47, 48, 49, 50, 51, 52, 53] (by decide +kernel) (by decide +kernel)
set_option maxRecDepth 20000 in
theorem gX3_chains_X3_matching : GoodIn wsX3_chains (wsV RX3 32 RX3 yX3_matching wsX3_matching) := goodIn_app (goodIn_of _ (by decide +kernel)) ggX3_chains_X3_matching
theorem dX3_chains_0 : decode cX3_chains 0 = .ok (.iconst 0, 1) := by decide +kernel
theorem dX3_chains_1 : decode cX3_chains 1 = .ok (.istore_n 3, 1) := by decide +kernel
theorem dX3_chains_2 : decode cX3_chains 2 = .ok (.aload_n 0, 1) := by decide +kernel
theorem dX3_chains_3 : decode cX3_chains 3 = .ok (.iconst 2, 1) := by decide +kernel
theorem dX3_chains_4 : decode cX3_chains 4 = .ok (.iconst 0, 1) := by decide +kernel
theorem dX3_chains_5 : decode cX3_chains 5 = .ok (.iload_n 1, 1) := by decide +kernel
theorem dX3_chains_6 : decode cX3_chains 6 = .ok (.iconst 0, 1) := by decide +kernel
theorem dX3_chains_7 : decode cX3_chains 7 = .ok (.invokevirtual 61, 3) := by decide +kernel
theorem dX3_chains_10 : decode cX3_chains 10 = .ok (.istore 4, 2) := by decide +kernel
theorem dX3_chains_12 : decode cX3_chains 12 = .ok (.aload_n 0, 1) := by decide +kernel
theorem dX3_chains_13 : decode cX3_chains 13 = .ok (.iconst 2, 1) := by decide +kernel
theorem dX3_chains_14 : decode cX3_chains 14 = .ok (.iconst 0, 1) := by decide +kernel
theorem dX3_chains_15 : decode cX3_chains 15 = .ok (.iload_n 1, 1) := by decide +kernel
theorem dX3_chains_16 : decode cX3_chains 16 = .ok (.iconst 0, 1) := by decide +kernel
theorem dX3_chains_17 : decode cX3_chains 17 = .ok (.invokevirtual 58, 3) := by decide +kernel
theorem dX3_chains_20 : decode cX3_chains 20 = .ok (.istore 5, 2) := by decide +kernel
theorem dX3_chains_22 : decode cX3_chains 22 = .ok (.iload 5, 2) := by decide +kernel
theorem dX3_chains_24 : decode cX3_chains 24 = .ok (.iload 4, 2) := by decide +kernel
theorem dX3_chains_26 : decode cX3_chains 26 = .ok (.if_icmp .ge 31, 3) := by decide +kernel
theorem dX3_chains_29 : decode cX3_chains 29 = .ok (.iload_n 3, 1) := by decide +kernel
theorem dX3_chains_30 : decode cX3_chains 30 = .ok (.aload_n 0, 1) := by decide +kernel
theorem dX3_chains_31 : decode cX3_chains 31 = .ok (.iconst 3, 1) := by decide +kernel
theorem dX3_chains_32 : decode cX3_chains 32 = .ok (.aload_n 0, 1) := by decide +kernel
theorem dX3_chains_33 : decode cX3_chains 33 = .ok (.getfield 11, 3) := by decide +kernel
theorem dX3_chains_36 : decode cX3_chains 36 = .ok (.iconst 1, 1) := by decide +kernel
theorem dX3_chains_37 : decode cX3_chains 37 = .ok (.aaload, 1) := by decide +kernel
theorem dX3_chains_38 : decode cX3_chains 38 = .ok (.iload 5, 2) := by decide +kernel
theorem dX3_chains_40 : decode cX3_chains 40 = .ok (.iconst 2, 1) := by decide +kernel
theorem dX3_chains_41 : decode cX3_chains 41 = .ok (.invokevirtual 98, 3) := by decide +kernel
theorem dX3_chains_44 : decode cX3_chains 44 = .ok (.iload_n 2, 1) := by decide +kernel
theorem dX3_chains_45 : decode cX3_chains 45 = .ok (.iconst 0, 1) := by decide +kernel
theorem dX3_chains_46 : decode cX3_chains 46 = .ok (.invokevirtual 32, 3) := by decide +kernel
theorem dX3_chains_49 : decode cX3_chains 49 = .ok (.iadd, 1) := by decide +kernel
theorem dX3_chains_50 : decode cX3_chains 50 = .ok (.istore_n 3, 1) := by decide +kernel
theorem dX3_chains_51 : decode cX3_chains 51 = .ok (.iinc 5 1, 3) := by decide +kernel
theorem dX3_chains_54 : decode cX3_chains 54 = .ok (.goto (-32), 3) := by decide +kernel
theorem dX3_chains_57 : decode cX3_chains 57 = .ok (.iload_n 3, 1) := by decide +kernel
theorem dX3_chains_58 : decode cX3_chains 58 = .ok (.ireturn, 1) := by decide +kernel
set_option maxRecDepth 20000 in
theorem ggX3_far_X3_walkAll : GoodIn wsX3_far wsX3_walkAll := goodIn_r _ [6, 1, 7, 8, 9, 5, 10, 11, 12, 13, 14, 15, 16, 17, 18, 19, 20, 21, 22, 23, 24, 25, 26, 27, 28, 29, 30, 31, 32, 33, 34, 35, 36, 37, 38, 39, 40, 41, 42, 43, 44, 45, 46, 47, 48, 49, 50, 51, 52, 53, 54, 55, 56, 57, 58, 59, 60, 61, 62, 63, 64, 65, 66, 67, 68, 69, 70, 71, 72, 73, 74, 75, 76, 77, 78, 79, 80, 85, 86, 87, 88, 89, 90, 91, 92, 93, 94, 95] (by decide +kernel) (by decide +kernel)
set_option maxRecDepth 20000 in
theorem gX3_far_X3_walkAll : GoodIn wsX3_far (wsV RX3 111 RX3 yX3_walkAll wsX3_walkAll) := goodIn_app (goodIn_of _ (by decide +kernel)) ggX3_far_X3_walkAll
set_option maxRecDepth 20000 in
theorem ggX3_far_X2_stepsTo : GoodIn wsX3_far wsX2_stepsTo := goodIn_r _ [84, 49, 71, 72, 89, 90, 91, 92] (by decide +kernel) (by decide +kernel)
set_option maxRecDepth 20000 in
theorem gX3_far_X2_stepsTo : GoodIn wsX3_far (wsV RX3 115 RX2 yX2_stepsTo wsX2_stepsTo) := goodIn_app (goodIn_of _ (by decide +kernel)) ggX3_far_X2_stepsTo
theorem dX3_far_0 : decode cX3_far 0 = .ok (.aload_n 0, 1) := by decide +kernel
theorem dX3_far_1 : decode cX3_far 1 = .ok (.iload_n 1, 1) := by decide +kernel
theorem dX3_far_2 : decode cX3_far 2 = .ok (.iload_n 2, 1) := by decide +kernel
theorem dX3_far_3 : decode cX3_far 3 = .ok (.invokevirtual 111, 3) := by decide +kernel
theorem dX3_far_6 : decode cX3_far 6 = .ok (.aload_n 0, 1) := by decide +kernel
theorem dX3_far_7 : decode cX3_far 7 = .ok (.getfield 28, 3) := by decide +kernel
theorem dX3_far_10 : decode cX3_far 10 = .ok (.iload_n 3, 1) := by decide +kernel
theorem dX3_far_11 : decode cX3_far 11 = .ok (.invokevirtual 115, 3) := by decide +kernel
theorem dX3_far_14 : decode cX3_far 14 = .ok (.ireturn, 1) := by decide +kernel
set_option maxRecDepth 20000 in
theorem ggX3_reached_X3_walkAll : GoodIn wsX3_reached wsX3_walkAll := goodIn_r _ [6, 1, 7, 8, 9, 5, 10, 11, 12, 13, 14, 15, 16, 17, 18, 19, 20, 21, 22, 23, 24, 25, 26, 27, 28, 29, 30, 31, 32, 33, 34, 35, 36, 37, 38, 39, 40, 41, 42, 43, 44, 45, 46, 47, 48, 49, 50, 51, 52, 53, 54, 55, 56, 57, 58, 59, 60, 61, 62, 63, 64, 65, 66, 67, 68, 69, 70, 71, 72, 73, 74, 75, 76, 77, 78, 79, 80, 81, 82, 83, 84, 85, 86, 87, 88, 89, 90, 91] (by decide +kernel) (by decide +kernel)
set_option maxRecDepth 20000 in
theorem gX3_reached_X3_walkAll : GoodIn wsX3_reached (wsV RX3 111 RX3 yX3_walkAll wsX3_walkAll) := goodIn_app (goodIn_of _ (by decide +kernel)) ggX3_reached_X3_walkAll
theorem dX3_reached_0 : decode cX3_reached 0 = .ok (.aload_n 0, 1) := by decide +kernel
theorem dX3_reached_1 : decode cX3_reached 1 = .ok (.iload_n 1, 1) := by decide +kernel
theorem dX3_reached_2 : decode cX3_reached 2 = .ok (.iload_n 2, 1) := by decide +kernel
theorem dX3_reached_3 : decode cX3_reached 3 = .ok (.invokevirtual 111, 3) := by decide +kernel
theorem dX3_reached_6 : decode cX3_reached 6 = .ok (.aload_n 0, 1) := by decide +kernel
theorem dX3_reached_7 : decode cX3_reached 7 = .ok (.getfield 28, 3) := by decide +kernel
theorem dX3_reached_10 : decode cX3_reached 10 = .ok (.getfield 119, 3) := by decide +kernel
theorem dX3_reached_13 : decode cX3_reached 13 = .ok (.ireturn, 1) := by decide +kernel
theorem dX3_size_0 : decode cX3_size 0 = .ok (.aload_n 0, 1) := by decide +kernel
theorem dX3_size_1 : decode cX3_size 1 = .ok (.getfield 11, 3) := by decide +kernel
theorem dX3_size_4 : decode cX3_size 4 = .ok (.iconst 0, 1) := by decide +kernel
theorem dX3_size_5 : decode cX3_size 5 = .ok (.aaload, 1) := by decide +kernel
theorem dX3_size_6 : decode cX3_size 6 = .ok (.getfield 36, 3) := by decide +kernel
theorem dX3_size_9 : decode cX3_size 9 = .ok (.ireturn, 1) := by decide +kernel
theorem dX3_changes_0 : decode cX3_changes 0 = .ok (.aload_n 0, 1) := by decide +kernel
theorem dX3_changes_1 : decode cX3_changes 1 = .ok (.getfield 44, 3) := by decide +kernel
theorem dX3_changes_4 : decode cX3_changes 4 = .ok (.ireturn, 1) := by decide +kernel
theorem dX3_isMask_0 : decode cX3_isMask 0 = .ok (.iload_n 0, 1) := by decide +kernel
theorem dX3_isMask_1 : decode cX3_isMask 1 = .ok (.ifCond .lt 13, 3) := by decide +kernel
theorem dX3_isMask_4 : decode cX3_isMask 4 = .ok (.iload_n 0, 1) := by decide +kernel
theorem dX3_isMask_5 : decode cX3_isMask 5 = .ok (.bipush 8, 2) := by decide +kernel
theorem dX3_isMask_7 : decode cX3_isMask 7 = .ok (.if_icmp .ge 7, 3) := by decide +kernel
theorem dX3_isMask_10 : decode cX3_isMask 10 = .ok (.iconst 1, 1) := by decide +kernel
theorem dX3_isMask_11 : decode cX3_isMask 11 = .ok (.goto 4, 3) := by decide +kernel
theorem dX3_isMask_14 : decode cX3_isMask 14 = .ok (.iconst 0, 1) := by decide +kernel
theorem dX3_isMask_15 : decode cX3_isMask 15 = .ok (.ireturn, 1) := by decide +kernel
theorem dX3_isOrder_0 : decode cX3_isOrder 0 = .ok (.iload_n 0, 1) := by decide +kernel
theorem dX3_isOrder_1 : decode cX3_isOrder 1 = .ok (.ifCond .lt 12, 3) := by decide +kernel
theorem dX3_isOrder_4 : decode cX3_isOrder 4 = .ok (.iload_n 0, 1) := by decide +kernel
theorem dX3_isOrder_5 : decode cX3_isOrder 5 = .ok (.iconst 3, 1) := by decide +kernel
theorem dX3_isOrder_6 : decode cX3_isOrder 6 = .ok (.if_icmp .ge 7, 3) := by decide +kernel
theorem dX3_isOrder_9 : decode cX3_isOrder 9 = .ok (.iconst 1, 1) := by decide +kernel
theorem dX3_isOrder_10 : decode cX3_isOrder 10 = .ok (.goto 4, 3) := by decide +kernel
theorem dX3_isOrder_13 : decode cX3_isOrder 13 = .ok (.iconst 0, 1) := by decide +kernel
theorem dX3_isOrder_14 : decode cX3_isOrder 14 = .ok (.ireturn, 1) := by decide +kernel
theorem dX3_isOpenCursor_0 : decode cX3_isOpenCursor 0 = .ok (.iload_n 1, 1) := by decide +kernel
theorem dX3_isOpenCursor_1 : decode cX3_isOpenCursor 1 = .ok (.ifCond .lt 25, 3) := by decide +kernel
theorem dX3_isOpenCursor_4 : decode cX3_isOpenCursor 4 = .ok (.iload_n 1, 1) := by decide +kernel
theorem dX3_isOpenCursor_5 : decode cX3_isOpenCursor 5 = .ok (.bipush 8, 2) := by decide +kernel
theorem dX3_isOpenCursor_7 : decode cX3_isOpenCursor 7 = .ok (.if_icmp .ge 19, 3) := by decide +kernel
theorem dX3_isOpenCursor_10 : decode cX3_isOpenCursor 10 = .ok (.aload_n 0, 1) := by decide +kernel
theorem dX3_isOpenCursor_11 : decode cX3_isOpenCursor 11 = .ok (.getfield 20, 3) := by decide +kernel
theorem dX3_isOpenCursor_14 : decode cX3_isOpenCursor 14 = .ok (.iload_n 1, 1) := by decide +kernel
theorem dX3_isOpenCursor_15 : decode cX3_isOpenCursor 15 = .ok (.aaload, 1) := by decide +kernel
theorem dX3_isOpenCursor_16 : decode cX3_isOpenCursor 16 = .ok (.getfield 54, 3) := by decide +kernel
theorem dX3_isOpenCursor_19 : decode cX3_isOpenCursor 19 = .ok (.ifCond .eq 7, 3) := by decide +kernel
theorem dX3_isOpenCursor_22 : decode cX3_isOpenCursor 22 = .ok (.iconst 1, 1) := by decide +kernel
theorem dX3_isOpenCursor_23 : decode cX3_isOpenCursor 23 = .ok (.goto 4, 3) := by decide +kernel
theorem dX3_isOpenCursor_26 : decode cX3_isOpenCursor 26 = .ok (.iconst 0, 1) := by decide +kernel
theorem dX3_isOpenCursor_27 : decode cX3_isOpenCursor 27 = .ok (.ireturn, 1) := by decide +kernel
theorem dX3_isStale_0 : decode cX3_isStale 0 = .ok (.aload_n 0, 1) := by decide +kernel
theorem dX3_isStale_1 : decode cX3_isStale 1 = .ok (.getfield 20, 3) := by decide +kernel
theorem dX3_isStale_4 : decode cX3_isStale 4 = .ok (.iload_n 1, 1) := by decide +kernel
theorem dX3_isStale_5 : decode cX3_isStale 5 = .ok (.aaload, 1) := by decide +kernel
theorem dX3_isStale_6 : decode cX3_isStale 6 = .ok (.getfield 120, 3) := by decide +kernel
theorem dX3_isStale_9 : decode cX3_isStale 9 = .ok (.aload_n 0, 1) := by decide +kernel
theorem dX3_isStale_10 : decode cX3_isStale 10 = .ok (.getfield 44, 3) := by decide +kernel
theorem dX3_isStale_13 : decode cX3_isStale 13 = .ok (.if_icmp .eq 7, 3) := by decide +kernel
theorem dX3_isStale_16 : decode cX3_isStale 16 = .ok (.iconst 1, 1) := by decide +kernel
theorem dX3_isStale_17 : decode cX3_isStale 17 = .ok (.goto 4, 3) := by decide +kernel
theorem dX3_isStale_20 : decode cX3_isStale 20 = .ok (.iconst 0, 1) := by decide +kernel
theorem dX3_isStale_21 : decode cX3_isStale 21 = .ok (.ireturn, 1) := by decide +kernel
set_option maxRecDepth 20000 in
theorem ggX3_startOf_J6_bitCount_0f7a4 : GoodIn wsX3_startOf wsJ6_bitCount_0f7a4 := goodIn_r _ [6, 7, 8, 9] (by decide +kernel) (by decide +kernel)
set_option maxRecDepth 20000 in
theorem gX3_startOf_J6_bitCount_0f7a4 : GoodIn wsX3_startOf (va_wsS RX3 123 yJ6_bitCount_0f7a4 wsJ6_bitCount_0f7a4) := goodIn_app (goodIn_of _ (by decide +kernel)) ggX3_startOf_J6_bitCount_0f7a4
set_option maxRecDepth 20000 in
theorem ggX3_startOf_X1_placeOf : GoodIn wsX3_startOf wsX1_placeOf := goodIn_r _ [14, 15, 16, 17, 13, 18, 19, 20, 21, 22, 23, 24, 25, 26, 27, 28, 29, 34, 35, 36] (by decide +kernel) (by decide +kernel)
set_option maxRecDepth 20000 in
theorem gX3_startOf_X1_placeOf : GoodIn wsX3_startOf (wsV RX3 105 RX1 yX1_placeOf wsX1_placeOf) := goodIn_app (goodIn_of _ (by decide +kernel)) ggX3_startOf_X1_placeOf
theorem dX3_startOf_0 : decode cX3_startOf 0 = .ok (.aload_n 0, 1) := by decide +kernel
theorem dX3_startOf_1 : decode cX3_startOf 1 = .ok (.getfield 11, 3) := by decide +kernel
theorem dX3_startOf_4 : decode cX3_startOf 4 = .ok (.getstatic 64, 3) := by decide +kernel
theorem dX3_startOf_7 : decode cX3_startOf 7 = .ok (.iload_n 1, 1) := by decide +kernel
theorem dX3_startOf_8 : decode cX3_startOf 8 = .ok (.iaload, 1) := by decide +kernel
theorem dX3_startOf_9 : decode cX3_startOf 9 = .ok (.aaload, 1) := by decide +kernel
theorem dX3_startOf_10 : decode cX3_startOf 10 = .ok (.iload_n 1, 1) := by decide +kernel
theorem dX3_startOf_11 : decode cX3_startOf 11 = .ok (.invokestatic 123, 3) := by decide +kernel
theorem dX3_startOf_14 : decode cX3_startOf 14 = .ok (.iload_n 2, 1) := by decide +kernel
theorem dX3_startOf_15 : decode cX3_startOf 15 = .ok (.iload_n 3, 1) := by decide +kernel
theorem dX3_startOf_16 : decode cX3_startOf 16 = .ok (.iload 4, 2) := by decide +kernel
theorem dX3_startOf_18 : decode cX3_startOf 18 = .ok (.iconst 0, 1) := by decide +kernel
theorem dX3_startOf_19 : decode cX3_startOf 19 = .ok (.invokevirtual 105, 3) := by decide +kernel
theorem dX3_startOf_22 : decode cX3_startOf 22 = .ok (.ireturn, 1) := by decide +kernel
set_option maxRecDepth 20000 in
theorem ggX3_endOf_J6_bitCount_0f7a4 : GoodIn wsX3_endOf wsJ6_bitCount_0f7a4 := goodIn_r _ [6, 7, 8, 9] (by decide +kernel) (by decide +kernel)
set_option maxRecDepth 20000 in
theorem gX3_endOf_J6_bitCount_0f7a4 : GoodIn wsX3_endOf (va_wsS RX3 123 yJ6_bitCount_0f7a4 wsJ6_bitCount_0f7a4) := goodIn_app (goodIn_of _ (by decide +kernel)) ggX3_endOf_J6_bitCount_0f7a4
set_option maxRecDepth 20000 in
theorem ggX3_endOf_X1_placeOf : GoodIn wsX3_endOf wsX1_placeOf := goodIn_r _ [14, 15, 16, 17, 13, 18, 19, 20, 21, 22, 23, 24, 25, 26, 27, 28, 29, 34, 35, 36] (by decide +kernel) (by decide +kernel)
set_option maxRecDepth 20000 in
theorem gX3_endOf_X1_placeOf : GoodIn wsX3_endOf (wsV RX3 105 RX1 yX1_placeOf wsX1_placeOf) := goodIn_app (goodIn_of _ (by decide +kernel)) ggX3_endOf_X1_placeOf
theorem dX3_endOf_0 : decode cX3_endOf 0 = .ok (.aload_n 0, 1) := by decide +kernel
theorem dX3_endOf_1 : decode cX3_endOf 1 = .ok (.getfield 11, 3) := by decide +kernel
theorem dX3_endOf_4 : decode cX3_endOf 4 = .ok (.getstatic 64, 3) := by decide +kernel
theorem dX3_endOf_7 : decode cX3_endOf 7 = .ok (.iload_n 1, 1) := by decide +kernel
theorem dX3_endOf_8 : decode cX3_endOf 8 = .ok (.iaload, 1) := by decide +kernel
theorem dX3_endOf_9 : decode cX3_endOf 9 = .ok (.aaload, 1) := by decide +kernel
theorem dX3_endOf_10 : decode cX3_endOf 10 = .ok (.iload_n 1, 1) := by decide +kernel
theorem dX3_endOf_11 : decode cX3_endOf 11 = .ok (.invokestatic 123, 3) := by decide +kernel
theorem dX3_endOf_14 : decode cX3_endOf 14 = .ok (.iload_n 2, 1) := by decide +kernel
theorem dX3_endOf_15 : decode cX3_endOf 15 = .ok (.iload_n 3, 1) := by decide +kernel
theorem dX3_endOf_16 : decode cX3_endOf 16 = .ok (.iload 4, 2) := by decide +kernel
theorem dX3_endOf_18 : decode cX3_endOf 18 = .ok (.iconst 1, 1) := by decide +kernel
theorem dX3_endOf_19 : decode cX3_endOf 19 = .ok (.invokevirtual 105, 3) := by decide +kernel
theorem dX3_endOf_22 : decode cX3_endOf 22 = .ok (.ireturn, 1) := by decide +kernel
set_option maxRecDepth 20000 in
theorem ggX3_matching_X3_endOf : GoodIn wsX3_matching wsX3_endOf := goodIn_r _ [5, 6, 7, 8, 9, 10, 11, 12, 13, 14, 15, 16, 17, 18, 19, 20, 21, 22, 23, 24, 25, 26, 27, 28, 29, 30, 31, 32, 33, 34, 39, 40, 41, 42, 43, 44, 45] (by decide +kernel) (by decide +kernel)
set_option maxRecDepth 20000 in
theorem gX3_matching_X3_endOf : GoodIn wsX3_matching (wsV RX3 61 RX3 yX3_endOf wsX3_endOf) := goodIn_app (goodIn_of _ (by decide +kernel)) ggX3_matching_X3_endOf
set_option maxRecDepth 20000 in
theorem ggX3_matching_X3_startOf : GoodIn wsX3_matching wsX3_startOf := goodIn_r _ [38, 6, 7, 8, 9, 10, 11, 12, 13, 14, 15, 16, 17, 18, 19, 20, 21, 22, 23, 24, 25, 26, 27, 28, 29, 30, 31, 32, 33, 34, 39, 40, 41, 42, 43, 44, 45] (by decide +kernel) (by decide +kernel)
set_option maxRecDepth 20000 in
theorem gX3_matching_X3_startOf : GoodIn wsX3_matching (wsV RX3 58 RX3 yX3_startOf wsX3_startOf) := goodIn_app (goodIn_of _ (by decide +kernel)) ggX3_matching_X3_startOf
theorem dX3_matching_0 : decode cX3_matching 0 = .ok (.aload_n 0, 1) := by decide +kernel
theorem dX3_matching_1 : decode cX3_matching 1 = .ok (.iload_n 1, 1) := by decide +kernel
theorem dX3_matching_2 : decode cX3_matching 2 = .ok (.iload_n 2, 1) := by decide +kernel
theorem dX3_matching_3 : decode cX3_matching 3 = .ok (.iload_n 3, 1) := by decide +kernel
theorem dX3_matching_4 : decode cX3_matching 4 = .ok (.iload 4, 2) := by decide +kernel
theorem dX3_matching_6 : decode cX3_matching 6 = .ok (.invokevirtual 61, 3) := by decide +kernel
theorem dX3_matching_9 : decode cX3_matching 9 = .ok (.aload_n 0, 1) := by decide +kernel
theorem dX3_matching_10 : decode cX3_matching 10 = .ok (.iload_n 1, 1) := by decide +kernel
theorem dX3_matching_11 : decode cX3_matching 11 = .ok (.iload_n 2, 1) := by decide +kernel
theorem dX3_matching_12 : decode cX3_matching 12 = .ok (.iload_n 3, 1) := by decide +kernel
theorem dX3_matching_13 : decode cX3_matching 13 = .ok (.iload 4, 2) := by decide +kernel
theorem dX3_matching_15 : decode cX3_matching 15 = .ok (.invokevirtual 58, 3) := by decide +kernel
theorem dX3_matching_18 : decode cX3_matching 18 = .ok (.isub, 1) := by decide +kernel
theorem dX3_matching_19 : decode cX3_matching 19 = .ok (.ireturn, 1) := by decide +kernel
set_option maxRecDepth 20000 in
theorem ggX3_removeMatching_X3_startOf : GoodIn wsX3_removeMatching wsX3_startOf := goodIn_r _ [7, 1, 2, 8, 9, 10, 11, 12, 13, 14, 15, 16, 17, 18, 19, 20, 21, 22, 23, 24, 25, 26, 27, 28, 29, 30, 31, 32, 33, 34, 56, 57, 58, 59, 60, 61, 62] (by decide +kernel) (by decide +kernel)
set_option maxRecDepth 20000 in
theorem gX3_removeMatching_X3_startOf : GoodIn wsX3_removeMatching (wsV RX3 58 RX3 yX3_startOf wsX3_startOf) := goodIn_app (goodIn_of _ (by decide +kernel)) ggX3_removeMatching_X3_startOf
set_option maxRecDepth 20000 in
theorem ggX3_removeMatching_X3_endOf : GoodIn wsX3_removeMatching wsX3_endOf := goodIn_r _ [38, 1, 2, 8, 9, 10, 11, 12, 13, 14, 15, 16, 17, 18, 19, 20, 21, 22, 23, 24, 25, 26, 27, 28, 29, 30, 31, 32, 33, 34, 56, 57, 58, 59, 60, 61, 62] (by decide +kernel) (by decide +kernel)
set_option maxRecDepth 20000 in
theorem gX3_removeMatching_X3_endOf : GoodIn wsX3_removeMatching (wsV RX3 61 RX3 yX3_endOf wsX3_endOf) := goodIn_app (goodIn_of _ (by decide +kernel)) ggX3_removeMatching_X3_endOf
set_option maxRecDepth 20000 in
theorem ggX3_removeMatching_X1_partAt : GoodIn wsX3_removeMatching wsX1_partAt := goodIn_r _ [42, 29, 34, 24, 60, 61, 62] (by decide +kernel) (by decide +kernel)
set_option maxRecDepth 20000 in
theorem gX3_removeMatching_X1_partAt : GoodIn wsX3_removeMatching (wsV RX3 98 RX1 yX1_partAt wsX1_partAt) := goodIn_app (goodIn_of _ (by decide +kernel)) ggX3_removeMatching_X1_partAt
set_option maxRecDepth 20000 in
theorem ggX3_removeMatching_X3_removeOne : GoodIn wsX3_removeMatching wsX3_removeOne := goodIn_r _ [46, 1, 47, 15, 16, 17, 18, 19, 20, 21, 22, 23, 24, 25, 26, 27, 28, 29, 30, 31, 32, 33, 34, 48, 49, 50, 51, 52, 53, 54, 55, 56, 57, 58, 59, 60, 61, 62] (by decide +kernel) (by decide +kernel)
set_option maxRecDepth 20000 in
theorem gX3_removeMatching_X3_removeOne : GoodIn wsX3_removeMatching (wsV RX3 128 RX3 yX3_removeOne wsX3_removeOne) := goodIn_app (goodIn_of _ (by decide +kernel)) ggX3_removeMatching_X3_removeOne
theorem dX3_removeMatching_0 : decode cX3_removeMatching 0 = .ok (.aload_n 0, 1) := by decide +kernel
theorem dX3_removeMatching_1 : decode cX3_removeMatching 1 = .ok (.getfield 11, 3) := by decide +kernel
theorem dX3_removeMatching_4 : decode cX3_removeMatching 4 = .ok (.getstatic 64, 3) := by decide +kernel
theorem dX3_removeMatching_7 : decode cX3_removeMatching 7 = .ok (.iload_n 1, 1) := by decide +kernel
theorem dX3_removeMatching_8 : decode cX3_removeMatching 8 = .ok (.iaload, 1) := by decide +kernel
theorem dX3_removeMatching_9 : decode cX3_removeMatching 9 = .ok (.aaload, 1) := by decide +kernel
theorem dX3_removeMatching_10 : decode cX3_removeMatching 10 = .ok (.astore 5, 2) := by decide +kernel
theorem dX3_removeMatching_12 : decode cX3_removeMatching 12 = .ok (.aload_n 0, 1) := by decide +kernel
theorem dX3_removeMatching_13 : decode cX3_removeMatching 13 = .ok (.iload_n 1, 1) := by decide +kernel
theorem dX3_removeMatching_14 : decode cX3_removeMatching 14 = .ok (.iload_n 2, 1) := by decide +kernel
theorem dX3_removeMatching_15 : decode cX3_removeMatching 15 = .ok (.iload_n 3, 1) := by decide +kernel
theorem dX3_removeMatching_16 : decode cX3_removeMatching 16 = .ok (.iload 4, 2) := by decide +kernel
theorem dX3_removeMatching_18 : decode cX3_removeMatching 18 = .ok (.invokevirtual 58, 3) := by decide +kernel
theorem dX3_removeMatching_21 : decode cX3_removeMatching 21 = .ok (.istore 6, 2) := by decide +kernel
theorem dX3_removeMatching_23 : decode cX3_removeMatching 23 = .ok (.aload_n 0, 1) := by decide +kernel
theorem dX3_removeMatching_24 : decode cX3_removeMatching 24 = .ok (.iload_n 1, 1) := by decide +kernel
theorem dX3_removeMatching_25 : decode cX3_removeMatching 25 = .ok (.iload_n 2, 1) := by decide +kernel
theorem dX3_removeMatching_26 : decode cX3_removeMatching 26 = .ok (.iload_n 3, 1) := by decide +kernel
theorem dX3_removeMatching_27 : decode cX3_removeMatching 27 = .ok (.iload 4, 2) := by decide +kernel
theorem dX3_removeMatching_29 : decode cX3_removeMatching 29 = .ok (.invokevirtual 61, 3) := by decide +kernel
theorem dX3_removeMatching_32 : decode cX3_removeMatching 32 = .ok (.istore 7, 2) := by decide +kernel
theorem dX3_removeMatching_34 : decode cX3_removeMatching 34 = .ok (.iload 7, 2) := by decide +kernel
theorem dX3_removeMatching_36 : decode cX3_removeMatching 36 = .ok (.iconst 1, 1) := by decide +kernel
theorem dX3_removeMatching_37 : decode cX3_removeMatching 37 = .ok (.isub, 1) := by decide +kernel
theorem dX3_removeMatching_38 : decode cX3_removeMatching 38 = .ok (.istore 8, 2) := by decide +kernel
theorem dX3_removeMatching_40 : decode cX3_removeMatching 40 = .ok (.iload 8, 2) := by decide +kernel
theorem dX3_removeMatching_42 : decode cX3_removeMatching 42 = .ok (.iload 6, 2) := by decide +kernel
theorem dX3_removeMatching_44 : decode cX3_removeMatching 44 = .ok (.if_icmp .lt 37, 3) := by decide +kernel
theorem dX3_removeMatching_47 : decode cX3_removeMatching 47 = .ok (.aload_n 0, 1) := by decide +kernel
theorem dX3_removeMatching_48 : decode cX3_removeMatching 48 = .ok (.aload 5, 2) := by decide +kernel
theorem dX3_removeMatching_50 : decode cX3_removeMatching 50 = .ok (.iload 8, 2) := by decide +kernel
theorem dX3_removeMatching_52 : decode cX3_removeMatching 52 = .ok (.iconst 0, 1) := by decide +kernel
theorem dX3_removeMatching_53 : decode cX3_removeMatching 53 = .ok (.invokevirtual 98, 3) := by decide +kernel
theorem dX3_removeMatching_56 : decode cX3_removeMatching 56 = .ok (.aload 5, 2) := by decide +kernel
theorem dX3_removeMatching_58 : decode cX3_removeMatching 58 = .ok (.iload 8, 2) := by decide +kernel
theorem dX3_removeMatching_60 : decode cX3_removeMatching 60 = .ok (.iconst 1, 1) := by decide +kernel
theorem dX3_removeMatching_61 : decode cX3_removeMatching 61 = .ok (.invokevirtual 98, 3) := by decide +kernel
theorem dX3_removeMatching_64 : decode cX3_removeMatching 64 = .ok (.aload 5, 2) := by decide +kernel
theorem dX3_removeMatching_66 : decode cX3_removeMatching 66 = .ok (.iload 8, 2) := by decide +kernel
theorem dX3_removeMatching_68 : decode cX3_removeMatching 68 = .ok (.iconst 2, 1) := by decide +kernel
theorem dX3_removeMatching_69 : decode cX3_removeMatching 69 = .ok (.invokevirtual 98, 3) := by decide +kernel
theorem dX3_removeMatching_72 : decode cX3_removeMatching 72 = .ok (.invokevirtual 128, 3) := by decide +kernel
theorem dX3_removeMatching_75 : decode cX3_removeMatching 75 = .ok (.iinc 8 (-1), 3) := by decide +kernel
theorem dX3_removeMatching_78 : decode cX3_removeMatching 78 = .ok (.goto (-38), 3) := by decide +kernel
theorem dX3_removeMatching_81 : decode cX3_removeMatching 81 = .ok (.iload 7, 2) := by decide +kernel
theorem dX3_removeMatching_83 : decode cX3_removeMatching 83 = .ok (.iload 6, 2) := by decide +kernel
theorem dX3_removeMatching_85 : decode cX3_removeMatching 85 = .ok (.isub, 1) := by decide +kernel
theorem dX3_removeMatching_86 : decode cX3_removeMatching 86 = .ok (.ireturn, 1) := by decide +kernel
set_option maxRecDepth 20000 in
theorem ggX3_removeOne_X1_placeOf : GoodIn wsX3_removeOne wsX1_placeOf := goodIn_r _ [7, 8, 9, 10, 6, 11, 12, 13, 14, 15, 16, 17, 18, 19, 20, 21, 22, 35, 36, 37] (by decide +kernel) (by decide +kernel)
set_option maxRecDepth 20000 in
theorem gX3_removeOne_X1_placeOf : GoodIn wsX3_removeOne (wsV RX3 105 RX1 yX1_placeOf wsX1_placeOf) := goodIn_app (goodIn_of _ (by decide +kernel)) ggX3_removeOne_X1_placeOf
set_option maxRecDepth 20000 in
theorem ggX3_removeOne_X1_cut : GoodIn wsX3_removeOne wsX1_cut := goodIn_r _ [26, 17, 22, 27, 28, 29, 30, 35, 36, 37] (by decide +kernel) (by decide +kernel)
set_option maxRecDepth 20000 in
theorem gX3_removeOne_X1_cut : GoodIn wsX3_removeOne (wsV RX3 131 RX1 yX1_cut wsX1_cut) := goodIn_app (goodIn_of _ (by decide +kernel)) ggX3_removeOne_X1_cut
theorem dX3_removeOne_0 : decode cX3_removeOne 0 = .ok (.iconst 0, 1) := by decide +kernel
theorem dX3_removeOne_1 : decode cX3_removeOne 1 = .ok (.istore 4, 2) := by decide +kernel
theorem dX3_removeOne_3 : decode cX3_removeOne 3 = .ok (.iload 4, 2) := by decide +kernel
theorem dX3_removeOne_5 : decode cX3_removeOne 5 = .ok (.aload_n 0, 1) := by decide +kernel
theorem dX3_removeOne_6 : decode cX3_removeOne 6 = .ok (.getfield 11, 3) := by decide +kernel
theorem dX3_removeOne_9 : decode cX3_removeOne 9 = .ok (.arraylength, 1) := by decide +kernel
theorem dX3_removeOne_10 : decode cX3_removeOne 10 = .ok (.if_icmp .ge 34, 3) := by decide +kernel
theorem dX3_removeOne_13 : decode cX3_removeOne 13 = .ok (.aload_n 0, 1) := by decide +kernel
theorem dX3_removeOne_14 : decode cX3_removeOne 14 = .ok (.getfield 11, 3) := by decide +kernel
theorem dX3_removeOne_17 : decode cX3_removeOne 17 = .ok (.iload 4, 2) := by decide +kernel
theorem dX3_removeOne_19 : decode cX3_removeOne 19 = .ok (.aaload, 1) := by decide +kernel
theorem dX3_removeOne_20 : decode cX3_removeOne 20 = .ok (.aload_n 0, 1) := by decide +kernel
theorem dX3_removeOne_21 : decode cX3_removeOne 21 = .ok (.getfield 11, 3) := by decide +kernel
theorem dX3_removeOne_24 : decode cX3_removeOne 24 = .ok (.iload 4, 2) := by decide +kernel
theorem dX3_removeOne_26 : decode cX3_removeOne 26 = .ok (.aaload, 1) := by decide +kernel
theorem dX3_removeOne_27 : decode cX3_removeOne 27 = .ok (.iconst 3, 1) := by decide +kernel
theorem dX3_removeOne_28 : decode cX3_removeOne 28 = .ok (.iload_n 1, 1) := by decide +kernel
theorem dX3_removeOne_29 : decode cX3_removeOne 29 = .ok (.iload_n 2, 1) := by decide +kernel
theorem dX3_removeOne_30 : decode cX3_removeOne 30 = .ok (.iload_n 3, 1) := by decide +kernel
theorem dX3_removeOne_31 : decode cX3_removeOne 31 = .ok (.iconst 0, 1) := by decide +kernel
theorem dX3_removeOne_32 : decode cX3_removeOne 32 = .ok (.invokevirtual 105, 3) := by decide +kernel
theorem dX3_removeOne_35 : decode cX3_removeOne 35 = .ok (.invokevirtual 131, 3) := by decide +kernel
theorem dX3_removeOne_38 : decode cX3_removeOne 38 = .ok (.iinc 4 1, 3) := by decide +kernel
theorem dX3_removeOne_41 : decode cX3_removeOne 41 = .ok (.goto (-38), 3) := by decide +kernel
theorem dX3_removeOne_44 : decode cX3_removeOne 44 = .ok (.aload_n 0, 1) := by decide +kernel
theorem dX3_removeOne_45 : decode cX3_removeOne 45 = .ok (.dup, 1) := by decide +kernel
theorem dX3_removeOne_46 : decode cX3_removeOne 46 = .ok (.getfield 44, 3) := by decide +kernel
theorem dX3_removeOne_49 : decode cX3_removeOne 49 = .ok (.iconst 1, 1) := by decide +kernel
theorem dX3_removeOne_50 : decode cX3_removeOne 50 = .ok (.iadd, 1) := by decide +kernel
theorem dX3_removeOne_51 : decode cX3_removeOne 51 = .ok (.putfield 44, 3) := by decide +kernel
theorem dX3_removeOne_54 : decode cX3_removeOne 54 = .ok (.return_, 1) := by decide +kernel
set_option maxRecDepth 20000 in
theorem ggX3_walkAll_X3_startOf : GoodIn wsX3_walkAll wsX3_startOf := goodIn_r _ [6, 7, 8, 9, 10, 11, 12, 13, 14, 15, 16, 17, 18, 19, 20, 21, 22, 23, 24, 25, 26, 27, 28, 29, 30, 31, 32, 33, 34, 35, 77, 78, 79, 80, 85, 86, 87] (by decide +kernel) (by decide +kernel)
set_option maxRecDepth 20000 in
theorem gX3_walkAll_X3_startOf : GoodIn wsX3_walkAll (wsV RX3 58 RX3 yX3_startOf wsX3_startOf) := goodIn_app (goodIn_of _ (by decide +kernel)) ggX3_walkAll_X3_startOf
set_option maxRecDepth 20000 in
theorem ggX3_walkAll_X3_endOf : GoodIn wsX3_walkAll wsX3_endOf := goodIn_r _ [39, 7, 8, 9, 10, 11, 12, 13, 14, 15, 16, 17, 18, 19, 20, 21, 22, 23, 24, 25, 26, 27, 28, 29, 30, 31, 32, 33, 34, 35, 77, 78, 79, 80, 85, 86, 87] (by decide +kernel) (by decide +kernel)
set_option maxRecDepth 20000 in
theorem gX3_walkAll_X3_endOf : GoodIn wsX3_walkAll (wsV RX3 61 RX3 yX3_endOf wsX3_endOf) := goodIn_app (goodIn_of _ (by decide +kernel)) ggX3_walkAll_X3_endOf
set_option maxRecDepth 20000 in
theorem ggX3_walkAll_X2_clear : GoodIn wsX3_walkAll wsX2_clear := goodIn_r _ [44, 45, 46, 47, 48, 49, 50, 81, 82, 83, 84] (by decide +kernel) (by decide +kernel)
set_option maxRecDepth 20000 in
theorem gX3_walkAll_X2_clear : GoodIn wsX3_walkAll (wsV RX3 134 RX2 yX2_clear wsX2_clear) := goodIn_app (goodIn_of _ (by decide +kernel)) ggX3_walkAll_X2_clear
set_option maxRecDepth 20000 in
theorem ggX3_walkAll_X3_matching : GoodIn wsX3_walkAll wsX3_matching := goodIn_r _ [54, 36, 37, 38, 5, 39, 7, 8, 9, 10, 11, 12, 13, 14, 15, 16, 17, 18, 19, 20, 21, 22, 23, 24, 25, 26, 27, 28, 29, 30, 31, 32, 33, 34, 35, 2, 3, 4, 6, 77, 78, 79, 80, 85, 86, 87] (by decide +kernel) (by decide +kernel)
set_option maxRecDepth 20000 in
theorem gX3_walkAll_X3_matching : GoodIn wsX3_walkAll (wsV RX3 32 RX3 yX3_matching wsX3_matching) := goodIn_app (goodIn_of _ (by decide +kernel)) ggX3_walkAll_X3_matching
set_option maxRecDepth 20000 in
theorem ggX3_walkAll_X3_markOf : GoodIn wsX3_walkAll wsX3_markOf := goodIn_r _ [58, 2, 3, 4, 5, 6, 7, 8, 9, 10, 11, 12, 13, 14, 15, 16, 17, 18, 19, 20, 21, 22, 23, 24, 25, 26, 27, 28, 29, 30, 31, 32, 33, 34, 35, 77, 78, 79, 80, 85, 86, 87] (by decide +kernel) (by decide +kernel)
set_option maxRecDepth 20000 in
theorem gX3_walkAll_X3_markOf : GoodIn wsX3_walkAll (wsV RX3 137 RX3 yX3_markOf wsX3_markOf) := goodIn_app (goodIn_of _ (by decide +kernel)) ggX3_walkAll_X3_markOf
set_option maxRecDepth 20000 in
theorem ggX3_walkAll_X2_mark : GoodIn wsX3_walkAll wsX2_mark := goodIn_r _ [62, 50, 81, 82, 83, 84] (by decide +kernel) (by decide +kernel)
set_option maxRecDepth 20000 in
theorem gX3_walkAll_X2_mark : GoodIn wsX3_walkAll (wsV RX3 140 RX2 yX2_mark wsX2_mark) := goodIn_app (goodIn_of _ (by decide +kernel)) ggX3_walkAll_X2_mark
set_option maxRecDepth 20000 in
theorem ggX3_walkAll_X2_comeTo : GoodIn wsX3_walkAll wsX2_comeTo := goodIn_r _ [66, 45, 67, 68, 81, 82, 83, 84] (by decide +kernel) (by decide +kernel)
set_option maxRecDepth 20000 in
theorem gX3_walkAll_X2_comeTo : GoodIn wsX3_walkAll (wsV RX3 143 RX2 yX2_comeTo wsX2_comeTo) := goodIn_app (goodIn_of _ (by decide +kernel)) ggX3_walkAll_X2_comeTo
set_option maxRecDepth 20000 in
theorem ggX3_walkAll_X3_walkOn : GoodIn wsX3_walkAll wsX3_walkOn := goodIn_r _ [72, 7, 1, 36, 37, 38, 5, 39, 8, 9, 10, 11, 12, 13, 14, 15, 16, 17, 18, 19, 20, 21, 22, 23, 24, 25, 26, 27, 28, 29, 30, 31, 32, 33, 34, 35, 2, 3, 4, 6, 73, 74, 75, 76, 55, 56, 57, 58, 59, 60, 61, 43, 62, 50, 63, 64, 65, 66, 45, 67, 68, 77, 78, 79, 80, 85, 86, 87, 81, 82, 83, 84] (by decide +kernel) (by decide +kernel)
set_option maxRecDepth 20000 in
theorem gX3_walkAll_X3_walkOn : GoodIn wsX3_walkAll (wsV RX3 152 RX3 yX3_walkOn wsX3_walkOn) := goodIn_app (goodIn_of _ (by decide +kernel)) ggX3_walkAll_X3_walkOn
theorem dX3_walkAll_0 : decode cX3_walkAll 0 = .ok (.aload_n 0, 1) := by decide +kernel
theorem dX3_walkAll_1 : decode cX3_walkAll 1 = .ok (.getfield 28, 3) := by decide +kernel
theorem dX3_walkAll_4 : decode cX3_walkAll 4 = .ok (.aload_n 0, 1) := by decide +kernel
theorem dX3_walkAll_5 : decode cX3_walkAll 5 = .ok (.iconst 2, 1) := by decide +kernel
theorem dX3_walkAll_6 : decode cX3_walkAll 6 = .ok (.iconst 0, 1) := by decide +kernel
theorem dX3_walkAll_7 : decode cX3_walkAll 7 = .ok (.iload_n 1, 1) := by decide +kernel
theorem dX3_walkAll_8 : decode cX3_walkAll 8 = .ok (.iconst 0, 1) := by decide +kernel
theorem dX3_walkAll_9 : decode cX3_walkAll 9 = .ok (.invokevirtual 58, 3) := by decide +kernel
theorem dX3_walkAll_12 : decode cX3_walkAll 12 = .ok (.aload_n 0, 1) := by decide +kernel
theorem dX3_walkAll_13 : decode cX3_walkAll 13 = .ok (.iconst 2, 1) := by decide +kernel
theorem dX3_walkAll_14 : decode cX3_walkAll 14 = .ok (.iconst 0, 1) := by decide +kernel
theorem dX3_walkAll_15 : decode cX3_walkAll 15 = .ok (.iload_n 1, 1) := by decide +kernel
theorem dX3_walkAll_16 : decode cX3_walkAll 16 = .ok (.iconst 0, 1) := by decide +kernel
theorem dX3_walkAll_17 : decode cX3_walkAll 17 = .ok (.invokevirtual 61, 3) := by decide +kernel
theorem dX3_walkAll_20 : decode cX3_walkAll 20 = .ok (.invokevirtual 134, 3) := by decide +kernel
theorem dX3_walkAll_23 : decode cX3_walkAll 23 = .ok (.aload_n 0, 1) := by decide +kernel
theorem dX3_walkAll_24 : decode cX3_walkAll 24 = .ok (.bipush 6, 2) := by decide +kernel
theorem dX3_walkAll_26 : decode cX3_walkAll 26 = .ok (.iconst 0, 1) := by decide +kernel
theorem dX3_walkAll_27 : decode cX3_walkAll 27 = .ok (.iload_n 1, 1) := by decide +kernel
theorem dX3_walkAll_28 : decode cX3_walkAll 28 = .ok (.iload_n 2, 1) := by decide +kernel
theorem dX3_walkAll_29 : decode cX3_walkAll 29 = .ok (.invokevirtual 32, 3) := by decide +kernel
theorem dX3_walkAll_32 : decode cX3_walkAll 32 = .ok (.ifCond .le 17, 3) := by decide +kernel
theorem dX3_walkAll_35 : decode cX3_walkAll 35 = .ok (.aload_n 0, 1) := by decide +kernel
theorem dX3_walkAll_36 : decode cX3_walkAll 36 = .ok (.getfield 28, 3) := by decide +kernel
theorem dX3_walkAll_39 : decode cX3_walkAll 39 = .ok (.aload_n 0, 1) := by decide +kernel
theorem dX3_walkAll_40 : decode cX3_walkAll 40 = .ok (.iload_n 1, 1) := by decide +kernel
theorem dX3_walkAll_41 : decode cX3_walkAll 41 = .ok (.iload_n 2, 1) := by decide +kernel
theorem dX3_walkAll_42 : decode cX3_walkAll 42 = .ok (.invokevirtual 137, 3) := by decide +kernel
theorem dX3_walkAll_45 : decode cX3_walkAll 45 = .ok (.invokevirtual 140, 3) := by decide +kernel
theorem dX3_walkAll_48 : decode cX3_walkAll 48 = .ok (.pop, 1) := by decide +kernel
theorem dX3_walkAll_49 : decode cX3_walkAll 49 = .ok (.aload_n 0, 1) := by decide +kernel
theorem dX3_walkAll_50 : decode cX3_walkAll 50 = .ok (.getfield 28, 3) := by decide +kernel
theorem dX3_walkAll_53 : decode cX3_walkAll 53 = .ok (.iload_n 2, 1) := by decide +kernel
theorem dX3_walkAll_54 : decode cX3_walkAll 54 = .ok (.iconst 0, 1) := by decide +kernel
theorem dX3_walkAll_55 : decode cX3_walkAll 55 = .ok (.invokevirtual 143, 3) := by decide +kernel
theorem dX3_walkAll_58 : decode cX3_walkAll 58 = .ok (.iconst 0, 1) := by decide +kernel
theorem dX3_walkAll_59 : decode cX3_walkAll 59 = .ok (.istore_n 3, 1) := by decide +kernel
theorem dX3_walkAll_60 : decode cX3_walkAll 60 = .ok (.iload_n 3, 1) := by decide +kernel
theorem dX3_walkAll_61 : decode cX3_walkAll 61 = .ok (.aload_n 0, 1) := by decide +kernel
theorem dX3_walkAll_62 : decode cX3_walkAll 62 = .ok (.getfield 28, 3) := by decide +kernel
theorem dX3_walkAll_65 : decode cX3_walkAll 65 = .ok (.getfield 119, 3) := by decide +kernel
theorem dX3_walkAll_68 : decode cX3_walkAll 68 = .ok (.if_icmp .ge 41, 3) := by decide +kernel
theorem dX3_walkAll_71 : decode cX3_walkAll 71 = .ok (.iload_n 3, 1) := by decide +kernel
theorem dX3_walkAll_72 : decode cX3_walkAll 72 = .ok (.sipush 700, 3) := by decide +kernel
theorem dX3_walkAll_75 : decode cX3_walkAll 75 = .ok (.if_icmp .gt 34, 3) := by decide +kernel
theorem dX3_walkAll_78 : decode cX3_walkAll 78 = .ok (.aload_n 0, 1) := by decide +kernel
theorem dX3_walkAll_79 : decode cX3_walkAll 79 = .ok (.iload_n 1, 1) := by decide +kernel
theorem dX3_walkAll_80 : decode cX3_walkAll 80 = .ok (.aload_n 0, 1) := by decide +kernel
theorem dX3_walkAll_81 : decode cX3_walkAll 81 = .ok (.getfield 28, 3) := by decide +kernel
theorem dX3_walkAll_84 : decode cX3_walkAll 84 = .ok (.getfield 146, 3) := by decide +kernel
theorem dX3_walkAll_87 : decode cX3_walkAll 87 = .ok (.iload_n 3, 1) := by decide +kernel
theorem dX3_walkAll_88 : decode cX3_walkAll 88 = .ok (.iaload, 1) := by decide +kernel
theorem dX3_walkAll_89 : decode cX3_walkAll 89 = .ok (.aload_n 0, 1) := by decide +kernel
theorem dX3_walkAll_90 : decode cX3_walkAll 90 = .ok (.getfield 28, 3) := by decide +kernel
theorem dX3_walkAll_93 : decode cX3_walkAll 93 = .ok (.getfield 149, 3) := by decide +kernel
theorem dX3_walkAll_96 : decode cX3_walkAll 96 = .ok (.iload_n 3, 1) := by decide +kernel
theorem dX3_walkAll_97 : decode cX3_walkAll 97 = .ok (.iaload, 1) := by decide +kernel
theorem dX3_walkAll_98 : decode cX3_walkAll 98 = .ok (.iconst 1, 1) := by decide +kernel
theorem dX3_walkAll_99 : decode cX3_walkAll 99 = .ok (.iadd, 1) := by decide +kernel
theorem dX3_walkAll_100 : decode cX3_walkAll 100 = .ok (.invokevirtual 152, 3) := by decide +kernel
theorem dX3_walkAll_103 : decode cX3_walkAll 103 = .ok (.iinc 3 1, 3) := by decide +kernel
theorem dX3_walkAll_106 : decode cX3_walkAll 106 = .ok (.goto (-46), 3) := by decide +kernel
theorem dX3_walkAll_109 : decode cX3_walkAll 109 = .ok (.return_, 1) := by decide +kernel
set_option maxRecDepth 20000 in
theorem ggX3_walkOn_X3_endOf : GoodIn wsX3_walkOn wsX3_endOf := goodIn_r _ [7, 1, 8, 9, 10, 11, 12, 13, 14, 15, 16, 17, 18, 19, 20, 21, 22, 23, 24, 25, 26, 27, 28, 29, 30, 31, 32, 33, 34, 35, 61, 62, 63, 64, 65, 66, 67] (by decide +kernel) (by decide +kernel)
set_option maxRecDepth 20000 in
theorem gX3_walkOn_X3_endOf : GoodIn wsX3_walkOn (wsV RX3 61 RX3 yX3_endOf wsX3_endOf) := goodIn_app (goodIn_of _ (by decide +kernel)) ggX3_walkOn_X3_endOf
set_option maxRecDepth 20000 in
theorem ggX3_walkOn_X3_startOf : GoodIn wsX3_walkOn wsX3_startOf := goodIn_r _ [39, 1, 8, 9, 10, 11, 12, 13, 14, 15, 16, 17, 18, 19, 20, 21, 22, 23, 24, 25, 26, 27, 28, 29, 30, 31, 32, 33, 34, 35, 61, 62, 63, 64, 65, 66, 67] (by decide +kernel) (by decide +kernel)
set_option maxRecDepth 20000 in
theorem gX3_walkOn_X3_startOf : GoodIn wsX3_walkOn (wsV RX3 58 RX3 yX3_startOf wsX3_startOf) := goodIn_app (goodIn_of _ (by decide +kernel)) ggX3_walkOn_X3_startOf
set_option maxRecDepth 20000 in
theorem ggX3_walkOn_X1_partAt : GoodIn wsX3_walkOn wsX1_partAt := goodIn_r _ [43, 30, 35, 25, 65, 66, 67] (by decide +kernel) (by decide +kernel)
set_option maxRecDepth 20000 in
theorem gX3_walkOn_X1_partAt : GoodIn wsX3_walkOn (wsV RX3 98 RX1 yX1_partAt wsX1_partAt) := goodIn_app (goodIn_of _ (by decide +kernel)) ggX3_walkOn_X1_partAt
set_option maxRecDepth 20000 in
theorem ggX3_walkOn_X3_markOf : GoodIn wsX3_walkOn wsX3_markOf := goodIn_r _ [47, 36, 37, 38, 6, 39, 1, 8, 9, 10, 11, 12, 13, 14, 15, 16, 17, 18, 19, 20, 21, 22, 23, 24, 25, 26, 27, 28, 29, 30, 31, 32, 33, 34, 35, 61, 62, 63, 64, 65, 66, 67] (by decide +kernel) (by decide +kernel)
set_option maxRecDepth 20000 in
theorem gX3_walkOn_X3_markOf : GoodIn wsX3_walkOn (wsV RX3 137 RX3 yX3_markOf wsX3_markOf) := goodIn_app (goodIn_of _ (by decide +kernel)) ggX3_walkOn_X3_markOf
set_option maxRecDepth 20000 in
theorem ggX3_walkOn_X2_mark : GoodIn wsX3_walkOn wsX2_mark := goodIn_r _ [52, 53, 68, 69, 70, 71] (by decide +kernel) (by decide +kernel)
set_option maxRecDepth 20000 in
theorem gX3_walkOn_X2_mark : GoodIn wsX3_walkOn (wsV RX3 140 RX2 yX2_mark wsX2_mark) := goodIn_app (goodIn_of _ (by decide +kernel)) ggX3_walkOn_X2_mark
set_option maxRecDepth 20000 in
theorem ggX3_walkOn_X2_comeTo : GoodIn wsX3_walkOn wsX2_comeTo := goodIn_r _ [57, 58, 59, 60, 68, 69, 70, 71] (by decide +kernel) (by decide +kernel)
set_option maxRecDepth 20000 in
theorem gX3_walkOn_X2_comeTo : GoodIn wsX3_walkOn (wsV RX3 143 RX2 yX2_comeTo wsX2_comeTo) := goodIn_app (goodIn_of _ (by decide +kernel)) ggX3_walkOn_X2_comeTo
theorem dX3_walkOn_0 : decode cX3_walkOn 0 = .ok (.aload_n 0, 1) := by decide +kernel
theorem dX3_walkOn_1 : decode cX3_walkOn 1 = .ok (.iconst 3, 1) := by decide +kernel
theorem dX3_walkOn_2 : decode cX3_walkOn 2 = .ok (.iload_n 2, 1) := by decide +kernel
theorem dX3_walkOn_3 : decode cX3_walkOn 3 = .ok (.iload_n 1, 1) := by decide +kernel
theorem dX3_walkOn_4 : decode cX3_walkOn 4 = .ok (.iconst 0, 1) := by decide +kernel
theorem dX3_walkOn_5 : decode cX3_walkOn 5 = .ok (.invokevirtual 61, 3) := by decide +kernel
theorem dX3_walkOn_8 : decode cX3_walkOn 8 = .ok (.istore 4, 2) := by decide +kernel
theorem dX3_walkOn_10 : decode cX3_walkOn 10 = .ok (.aload_n 0, 1) := by decide +kernel
theorem dX3_walkOn_11 : decode cX3_walkOn 11 = .ok (.iconst 3, 1) := by decide +kernel
theorem dX3_walkOn_12 : decode cX3_walkOn 12 = .ok (.iload_n 2, 1) := by decide +kernel
theorem dX3_walkOn_13 : decode cX3_walkOn 13 = .ok (.iload_n 1, 1) := by decide +kernel
theorem dX3_walkOn_14 : decode cX3_walkOn 14 = .ok (.iconst 0, 1) := by decide +kernel
theorem dX3_walkOn_15 : decode cX3_walkOn 15 = .ok (.invokevirtual 58, 3) := by decide +kernel
theorem dX3_walkOn_18 : decode cX3_walkOn 18 = .ok (.istore 5, 2) := by decide +kernel
theorem dX3_walkOn_20 : decode cX3_walkOn 20 = .ok (.iload 5, 2) := by decide +kernel
theorem dX3_walkOn_22 : decode cX3_walkOn 22 = .ok (.iload 4, 2) := by decide +kernel
theorem dX3_walkOn_24 : decode cX3_walkOn 24 = .ok (.if_icmp .ge 50, 3) := by decide +kernel
theorem dX3_walkOn_27 : decode cX3_walkOn 27 = .ok (.aload_n 0, 1) := by decide +kernel
theorem dX3_walkOn_28 : decode cX3_walkOn 28 = .ok (.getfield 11, 3) := by decide +kernel
theorem dX3_walkOn_31 : decode cX3_walkOn 31 = .ok (.iconst 0, 1) := by decide +kernel
theorem dX3_walkOn_32 : decode cX3_walkOn 32 = .ok (.aaload, 1) := by decide +kernel
theorem dX3_walkOn_33 : decode cX3_walkOn 33 = .ok (.iload 5, 2) := by decide +kernel
theorem dX3_walkOn_35 : decode cX3_walkOn 35 = .ok (.iconst 2, 1) := by decide +kernel
theorem dX3_walkOn_36 : decode cX3_walkOn 36 = .ok (.invokevirtual 98, 3) := by decide +kernel
theorem dX3_walkOn_39 : decode cX3_walkOn 39 = .ok (.istore 6, 2) := by decide +kernel
theorem dX3_walkOn_41 : decode cX3_walkOn 41 = .ok (.aload_n 0, 1) := by decide +kernel
theorem dX3_walkOn_42 : decode cX3_walkOn 42 = .ok (.getfield 28, 3) := by decide +kernel
theorem dX3_walkOn_45 : decode cX3_walkOn 45 = .ok (.aload_n 0, 1) := by decide +kernel
theorem dX3_walkOn_46 : decode cX3_walkOn 46 = .ok (.iload_n 1, 1) := by decide +kernel
theorem dX3_walkOn_47 : decode cX3_walkOn 47 = .ok (.iload 6, 2) := by decide +kernel
theorem dX3_walkOn_49 : decode cX3_walkOn 49 = .ok (.invokevirtual 137, 3) := by decide +kernel
theorem dX3_walkOn_52 : decode cX3_walkOn 52 = .ok (.invokevirtual 140, 3) := by decide +kernel
theorem dX3_walkOn_55 : decode cX3_walkOn 55 = .ok (.ifCond .eq 13, 3) := by decide +kernel
theorem dX3_walkOn_58 : decode cX3_walkOn 58 = .ok (.aload_n 0, 1) := by decide +kernel
theorem dX3_walkOn_59 : decode cX3_walkOn 59 = .ok (.getfield 28, 3) := by decide +kernel
theorem dX3_walkOn_62 : decode cX3_walkOn 62 = .ok (.iload 6, 2) := by decide +kernel
theorem dX3_walkOn_64 : decode cX3_walkOn 64 = .ok (.iload_n 3, 1) := by decide +kernel
theorem dX3_walkOn_65 : decode cX3_walkOn 65 = .ok (.invokevirtual 143, 3) := by decide +kernel
theorem dX3_walkOn_68 : decode cX3_walkOn 68 = .ok (.iinc 5 1, 3) := by decide +kernel
theorem dX3_walkOn_71 : decode cX3_walkOn 71 = .ok (.goto (-51), 3) := by decide +kernel
theorem dX3_walkOn_74 : decode cX3_walkOn 74 = .ok (.return_, 1) := by decide +kernel
set_option maxRecDepth 20000 in
theorem ggX3_markOf_X3_startOf : GoodIn wsX3_markOf wsX3_startOf := goodIn_r _ [5, 6, 7, 8, 9, 10, 11, 12, 13, 14, 15, 16, 17, 18, 19, 20, 21, 22, 23, 24, 25, 26, 27, 28, 29, 30, 31, 32, 33, 34, 35, 36, 37, 38, 39, 40, 41] (by decide +kernel) (by decide +kernel)
set_option maxRecDepth 20000 in
theorem gX3_markOf_X3_startOf : GoodIn wsX3_markOf (wsV RX3 58 RX3 yX3_startOf wsX3_startOf) := goodIn_app (goodIn_of _ (by decide +kernel)) ggX3_markOf_X3_startOf
theorem dX3_markOf_0 : decode cX3_markOf 0 = .ok (.aload_n 0, 1) := by decide +kernel
theorem dX3_markOf_1 : decode cX3_markOf 1 = .ok (.bipush 6, 2) := by decide +kernel
theorem dX3_markOf_3 : decode cX3_markOf 3 = .ok (.iconst 0, 1) := by decide +kernel
theorem dX3_markOf_4 : decode cX3_markOf 4 = .ok (.iload_n 1, 1) := by decide +kernel
theorem dX3_markOf_5 : decode cX3_markOf 5 = .ok (.iload_n 2, 1) := by decide +kernel
theorem dX3_markOf_6 : decode cX3_markOf 6 = .ok (.invokevirtual 58, 3) := by decide +kernel
theorem dX3_markOf_9 : decode cX3_markOf 9 = .ok (.ireturn, 1) := by decide +kernel
theorem dX4_init_0 : decode cX4_init 0 = .ok (.aload_n 0, 1) := by decide +kernel
theorem dX4_init_1 : decode cX4_init 1 = .ok (.invokespecial 1, 3) := by decide +kernel
theorem dX4_init_4 : decode cX4_init 4 = .ok (.aload_n 0, 1) := by decide +kernel
theorem dX4_init_5 : decode cX4_init 5 = .ok (.sipush 6303, 3) := by decide +kernel
