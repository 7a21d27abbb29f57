theorem dX0_init_0 : decode cX0_init 0 = .ok (.aload_n 0, 1) := by decide +kernel
theorem dX0_init_1 : decode cX0_init 1 = .ok (.invokespecial 3, 3) := by decide +kernel
theorem dX0_init_4 : decode cX0_init 4 = .ok (.aload_n 0, 1) := by decide +kernel
theorem dX0_init_5 : decode cX0_init 5 = .ok (.bipush 60, 2) := by decide +kernel
theorem dX0_init_7 : decode cX0_init 7 = .ok (.newarray .int, 2) := by decide +kernel
theorem dX0_init_9 : decode cX0_init 9 = .ok (.putfield 9, 3) := by decide +kernel
theorem dX0_init_12 : decode cX0_init 12 = .ok (.return_, 1) := by decide +kernel
theorem dX1_init_0 : decode cX1_init 0 = .ok (.aload_n 0, 1) := by decide +kernel
theorem dX1_init_1 : decode cX1_init 1 = .ok (.invokespecial 3, 3) := by decide +kernel
theorem dX1_init_4 : decode cX1_init 4 = .ok (.aload_n 0, 1) := by decide +kernel
theorem dX1_init_5 : decode cX1_init 5 = .ok (.bipush 16, 2) := by decide +kernel
theorem dX1_init_7 : decode cX1_init 7 = .ok (.newarray .int, 2) := by decide +kernel
theorem dX1_init_9 : decode cX1_init 9 = .ok (.putfield 9, 3) := by decide +kernel
theorem dX1_init_12 : decode cX1_init 12 = .ok (.aload_n 0, 1) := by decide +kernel
theorem dX1_init_13 : decode cX1_init 13 = .ok (.bipush 16, 2) := by decide +kernel
theorem dX1_init_15 : decode cX1_init 15 = .ok (.newarray .int, 2) := by decide +kernel
theorem dX1_init_17 : decode cX1_init 17 = .ok (.putfield 15, 3) := by decide +kernel
theorem dX1_init_20 : decode cX1_init 20 = .ok (.aload_n 0, 1) := by decide +kernel
theorem dX1_init_21 : decode cX1_init 21 = .ok (.bipush 16, 2) := by decide +kernel
theorem dX1_init_23 : decode cX1_init 23 = .ok (.newarray .int, 2) := by decide +kernel
theorem dX1_init_25 : decode cX1_init 25 = .ok (.putfield 18, 3) := by decide +kernel
theorem dX1_init_28 : decode cX1_init 28 = .ok (.aload_n 0, 1) := by decide +kernel
theorem dX1_init_29 : decode cX1_init 29 = .ok (.bipush 16, 2) := by decide +kernel
theorem dX1_init_31 : decode cX1_init 31 = .ok (.newarray .int, 2) := by decide +kernel
theorem dX1_init_33 : decode cX1_init 33 = .ok (.putfield 21, 3) := by decide +kernel
theorem dX1_init_36 : decode cX1_init 36 = .ok (.return_, 1) := by decide +kernel
set_option maxRecDepth 20000 in
theorem ggX1_copyFrom_X5_copyRow : GoodIn wsX1_copyFrom wsX5_copyRow := goodIn_r _ [9] (by decide +kernel) (by decide +kernel)
set_option maxRecDepth 20000 in
theorem gX1_copyFrom_X5_copyRow_n24 : GoodIn wsX1_copyFrom (wsX5_copyRow) := ggX1_copyFrom_X5_copyRow
theorem dX1_copyFrom_0 : decode cX1_copyFrom 0 = .ok (.aload_n 1, 1) := by decide +kernel
theorem dX1_copyFrom_1 : decode cX1_copyFrom 1 = .ok (.getfield 9, 3) := by decide +kernel
theorem dX1_copyFrom_4 : decode cX1_copyFrom 4 = .ok (.aload_n 0, 1) := by decide +kernel
theorem dX1_copyFrom_5 : decode cX1_copyFrom 5 = .ok (.getfield 9, 3) := by decide +kernel
theorem dX1_copyFrom_8 : decode cX1_copyFrom 8 = .ok (.invokestatic 24, 3) := by decide +kernel
theorem dX1_copyFrom_11 : decode cX1_copyFrom 11 = .ok (.aload_n 1, 1) := by decide +kernel
theorem dX1_copyFrom_12 : decode cX1_copyFrom 12 = .ok (.getfield 15, 3) := by decide +kernel
theorem dX1_copyFrom_15 : decode cX1_copyFrom 15 = .ok (.aload_n 0, 1) := by decide +kernel
theorem dX1_copyFrom_16 : decode cX1_copyFrom 16 = .ok (.getfield 15, 3) := by decide +kernel
theorem dX1_copyFrom_19 : decode cX1_copyFrom 19 = .ok (.invokestatic 24, 3) := by decide +kernel
theorem dX1_copyFrom_22 : decode cX1_copyFrom 22 = .ok (.aload_n 1, 1) := by decide +kernel
theorem dX1_copyFrom_23 : decode cX1_copyFrom 23 = .ok (.getfield 18, 3) := by decide +kernel
theorem dX1_copyFrom_26 : decode cX1_copyFrom 26 = .ok (.aload_n 0, 1) := by decide +kernel
theorem dX1_copyFrom_27 : decode cX1_copyFrom 27 = .ok (.getfield 18, 3) := by decide +kernel
theorem dX1_copyFrom_30 : decode cX1_copyFrom 30 = .ok (.invokestatic 24, 3) := by decide +kernel
theorem dX1_copyFrom_33 : decode cX1_copyFrom 33 = .ok (.aload_n 1, 1) := by decide +kernel
theorem dX1_copyFrom_34 : decode cX1_copyFrom 34 = .ok (.getfield 21, 3) := by decide +kernel
theorem dX1_copyFrom_37 : decode cX1_copyFrom 37 = .ok (.aload_n 0, 1) := by decide +kernel
theorem dX1_copyFrom_38 : decode cX1_copyFrom 38 = .ok (.getfield 21, 3) := by decide +kernel
theorem dX1_copyFrom_41 : decode cX1_copyFrom 41 = .ok (.invokestatic 24, 3) := by decide +kernel
theorem dX1_copyFrom_44 : decode cX1_copyFrom 44 = .ok (.aload_n 0, 1) := by decide +kernel
theorem dX1_copyFrom_45 : decode cX1_copyFrom 45 = .ok (.aload_n 1, 1) := by decide +kernel
theorem dX1_copyFrom_46 : decode cX1_copyFrom 46 = .ok (.getfield 28, 3) := by decide +kernel
theorem dX1_copyFrom_49 : decode cX1_copyFrom 49 = .ok (.putfield 28, 3) := by decide +kernel
theorem dX1_copyFrom_52 : decode cX1_copyFrom 52 = .ok (.aload_n 0, 1) := by decide +kernel
theorem dX1_copyFrom_53 : decode cX1_copyFrom 53 = .ok (.aload_n 1, 1) := by decide +kernel
theorem dX1_copyFrom_54 : decode cX1_copyFrom 54 = .ok (.getfield 32, 3) := by decide +kernel
theorem dX1_copyFrom_57 : decode cX1_copyFrom 57 = .ok (.putfield 32, 3) := by decide +kernel
theorem dX1_copyFrom_60 : decode cX1_copyFrom 60 = .ok (.return_, 1) := by decide +kernel
theorem dX1_isFull_0 : decode cX1_isFull 0 = .ok (.aload_n 0, 1) := by decide +kernel
theorem dX1_isFull_1 : decode cX1_isFull 1 = .ok (.getfield 28, 3) := by decide +kernel
theorem dX1_isFull_4 : decode cX1_isFull 4 = .ok (.bipush 16, 2) := by decide +kernel
theorem dX1_isFull_6 : decode cX1_isFull 6 = .ok (.if_icmp .lt 7, 3) := by decide +kernel
theorem dX1_isFull_9 : decode cX1_isFull 9 = .ok (.iconst 1, 1) := by decide +kernel
theorem dX1_isFull_10 : decode cX1_isFull 10 = .ok (.goto 4, 3) := by decide +kernel
theorem dX1_isFull_13 : decode cX1_isFull 13 = .ok (.iconst 0, 1) := by decide +kernel
theorem dX1_isFull_14 : decode cX1_isFull 14 = .ok (.ireturn, 1) := by decide +kernel
set_option maxRecDepth 20000 in
theorem ggX1_add_X1_isFull : GoodIn wsX1_add wsX1_isFull := goodIn_r _ [11, 1, 16, 17, 18, 19, 20, 21] (by decide +kernel) (by decide +kernel)
set_option maxRecDepth 20000 in
theorem gX1_add_X1_isFull : GoodIn wsX1_add (wsV RX1 35 RX1 yX1_isFull wsX1_isFull) := goodIn_app (goodIn_of _ (by decide +kernel)) ggX1_add_X1_isFull
set_option maxRecDepth 20000 in
theorem ggX1_add_X1_move : GoodIn wsX1_add wsX1_move := goodIn_r _ [15, 4, 2, 5, 6, 16, 17, 18, 19, 20, 21] (by decide +kernel) (by decide +kernel)
set_option maxRecDepth 20000 in
theorem gX1_add_X1_move : GoodIn wsX1_add (wsV RX1 39 RX1 yX1_move wsX1_move) := goodIn_app (goodIn_of _ (by decide +kernel)) ggX1_add_X1_move
theorem dX1_add_0 : decode cX1_add 0 = .ok (.aload_n 0, 1) := by decide +kernel
theorem dX1_add_1 : decode cX1_add 1 = .ok (.invokevirtual 35, 3) := by decide +kernel
theorem dX1_add_4 : decode cX1_add 4 = .ok (.ifCond .eq 5, 3) := by decide +kernel
theorem dX1_add_7 : decode cX1_add 7 = .ok (.iconst (-1), 1) := by decide +kernel
theorem dX1_add_8 : decode cX1_add 8 = .ok (.ireturn, 1) := by decide +kernel
theorem dX1_add_9 : decode cX1_add 9 = .ok (.aload_n 0, 1) := by decide +kernel
theorem dX1_add_10 : decode cX1_add 10 = .ok (.getfield 28, 3) := by decide +kernel
theorem dX1_add_13 : decode cX1_add 13 = .ok (.istore 4, 2) := by decide +kernel
theorem dX1_add_15 : decode cX1_add 15 = .ok (.iload 4, 2) := by decide +kernel
theorem dX1_add_17 : decode cX1_add 17 = .ok (.ifCond .le 32, 3) := by decide +kernel
theorem dX1_add_20 : decode cX1_add 20 = .ok (.aload_n 0, 1) := by decide +kernel
theorem dX1_add_21 : decode cX1_add 21 = .ok (.getfield 15, 3) := by decide +kernel
theorem dX1_add_24 : decode cX1_add 24 = .ok (.iload 4, 2) := by decide +kernel
theorem dX1_add_26 : decode cX1_add 26 = .ok (.iconst 1, 1) := by decide +kernel
theorem dX1_add_27 : decode cX1_add 27 = .ok (.isub, 1) := by decide +kernel
theorem dX1_add_28 : decode cX1_add 28 = .ok (.iaload, 1) := by decide +kernel
theorem dX1_add_29 : decode cX1_add 29 = .ok (.iload_n 1, 1) := by decide +kernel
theorem dX1_add_30 : decode cX1_add 30 = .ok (.if_icmp .le 19, 3) := by decide +kernel
theorem dX1_add_33 : decode cX1_add 33 = .ok (.aload_n 0, 1) := by decide +kernel
theorem dX1_add_34 : decode cX1_add 34 = .ok (.iload 4, 2) := by decide +kernel
theorem dX1_add_36 : decode cX1_add 36 = .ok (.iconst 1, 1) := by decide +kernel
theorem dX1_add_37 : decode cX1_add 37 = .ok (.isub, 1) := by decide +kernel
theorem dX1_add_38 : decode cX1_add 38 = .ok (.iload 4, 2) := by decide +kernel
theorem dX1_add_40 : decode cX1_add 40 = .ok (.invokevirtual 39, 3) := by decide +kernel
theorem dX1_add_43 : decode cX1_add 43 = .ok (.iinc 4 (-1), 3) := by decide +kernel
theorem dX1_add_46 : decode cX1_add 46 = .ok (.goto (-31), 3) := by decide +kernel
theorem dX1_add_49 : decode cX1_add 49 = .ok (.aload_n 0, 1) := by decide +kernel
theorem dX1_add_50 : decode cX1_add 50 = .ok (.getfield 32, 3) := by decide +kernel
theorem dX1_add_53 : decode cX1_add 53 = .ok (.istore 5, 2) := by decide +kernel
theorem dX1_add_55 : decode cX1_add 55 = .ok (.aload_n 0, 1) := by decide +kernel
theorem dX1_add_56 : decode cX1_add 56 = .ok (.getfield 9, 3) := by decide +kernel
theorem dX1_add_59 : decode cX1_add 59 = .ok (.iload 4, 2) := by decide +kernel
theorem dX1_add_61 : decode cX1_add 61 = .ok (.iload 5, 2) := by decide +kernel
theorem dX1_add_63 : decode cX1_add 63 = .ok (.iastore, 1) := by decide +kernel
theorem dX1_add_64 : decode cX1_add 64 = .ok (.aload_n 0, 1) := by decide +kernel
theorem dX1_add_65 : decode cX1_add 65 = .ok (.getfield 15, 3) := by decide +kernel
theorem dX1_add_68 : decode cX1_add 68 = .ok (.iload 4, 2) := by decide +kernel
theorem dX1_add_70 : decode cX1_add 70 = .ok (.iload_n 1, 1) := by decide +kernel
theorem dX1_add_71 : decode cX1_add 71 = .ok (.iastore, 1) := by decide +kernel
theorem dX1_add_72 : decode cX1_add 72 = .ok (.aload_n 0, 1) := by decide +kernel
theorem dX1_add_73 : decode cX1_add 73 = .ok (.getfield 18, 3) := by decide +kernel
theorem dX1_add_76 : decode cX1_add 76 = .ok (.iload 4, 2) := by decide +kernel
theorem dX1_add_78 : decode cX1_add 78 = .ok (.iload_n 2, 1) := by decide +kernel
theorem dX1_add_79 : decode cX1_add 79 = .ok (.iastore, 1) := by decide +kernel
theorem dX1_add_80 : decode cX1_add 80 = .ok (.aload_n 0, 1) := by decide +kernel
theorem dX1_add_81 : decode cX1_add 81 = .ok (.getfield 21, 3) := by decide +kernel
theorem dX1_add_84 : decode cX1_add 84 = .ok (.iload 4, 2) := by decide +kernel
theorem dX1_add_86 : decode cX1_add 86 = .ok (.iload_n 3, 1) := by decide +kernel
theorem dX1_add_87 : decode cX1_add 87 = .ok (.iastore, 1) := by decide +kernel
theorem dX1_add_88 : decode cX1_add 88 = .ok (.aload_n 0, 1) := by decide +kernel
theorem dX1_add_89 : decode cX1_add 89 = .ok (.dup, 1) := by decide +kernel
theorem dX1_add_90 : decode cX1_add 90 = .ok (.getfield 28, 3) := by decide +kernel
theorem dX1_add_93 : decode cX1_add 93 = .ok (.iconst 1, 1) := by decide +kernel
theorem dX1_add_94 : decode cX1_add 94 = .ok (.iadd, 1) := by decide +kernel
theorem dX1_add_95 : decode cX1_add 95 = .ok (.putfield 28, 3) := by decide +kernel
theorem dX1_add_98 : decode cX1_add 98 = .ok (.aload_n 0, 1) := by decide +kernel
theorem dX1_add_99 : decode cX1_add 99 = .ok (.dup, 1) := by decide +kernel
theorem dX1_add_100 : decode cX1_add 100 = .ok (.getfield 32, 3) := by decide +kernel
theorem dX1_add_103 : decode cX1_add 103 = .ok (.iconst 1, 1) := by decide +kernel
theorem dX1_add_104 : decode cX1_add 104 = .ok (.iadd, 1) := by decide +kernel
theorem dX1_add_105 : decode cX1_add 105 = .ok (.putfield 32, 3) := by decide +kernel
theorem dX1_add_108 : decode cX1_add 108 = .ok (.iload 5, 2) := by decide +kernel
theorem dX1_add_110 : decode cX1_add 110 = .ok (.ireturn, 1) := by decide +kernel
set_option maxRecDepth 20000 in
theorem ggX1_removeAt_X1_move : GoodIn wsX1_removeAt wsX1_move := goodIn_r _ [6, 7, 8, 9, 10, 11, 12, 13, 14, 15, 16] (by decide +kernel) (by decide +kernel)
set_option maxRecDepth 20000 in
theorem gX1_removeAt_X1_move : GoodIn wsX1_removeAt (wsV RX1 39 RX1 yX1_move wsX1_move) := goodIn_app (goodIn_of _ (by decide +kernel)) ggX1_removeAt_X1_move
theorem dX1_removeAt_0 : decode cX1_removeAt 0 = .ok (.iload_n 1, 1) := by decide +kernel
theorem dX1_removeAt_1 : decode cX1_removeAt 1 = .ok (.ifCond .lt 11, 3) := by decide +kernel
theorem dX1_removeAt_4 : decode cX1_removeAt 4 = .ok (.iload_n 1, 1) := by decide +kernel
theorem dX1_removeAt_5 : decode cX1_removeAt 5 = .ok (.aload_n 0, 1) := by decide +kernel
theorem dX1_removeAt_6 : decode cX1_removeAt 6 = .ok (.getfield 28, 3) := by decide +kernel
theorem dX1_removeAt_9 : decode cX1_removeAt 9 = .ok (.if_icmp .lt 4, 3) := by decide +kernel
theorem dX1_removeAt_12 : decode cX1_removeAt 12 = .ok (.return_, 1) := by decide +kernel
theorem dX1_removeAt_13 : decode cX1_removeAt 13 = .ok (.iload_n 1, 1) := by decide +kernel
theorem dX1_removeAt_14 : decode cX1_removeAt 14 = .ok (.istore_n 2, 1) := by decide +kernel
theorem dX1_removeAt_15 : decode cX1_removeAt 15 = .ok (.iload_n 2, 1) := by decide +kernel
theorem dX1_removeAt_16 : decode cX1_removeAt 16 = .ok (.iconst 1, 1) := by decide +kernel
theorem dX1_removeAt_17 : decode cX1_removeAt 17 = .ok (.iadd, 1) := by decide +kernel
theorem dX1_removeAt_18 : decode cX1_removeAt 18 = .ok (.aload_n 0, 1) := by decide +kernel
theorem dX1_removeAt_19 : decode cX1_removeAt 19 = .ok (.getfield 28, 3) := by decide +kernel
theorem dX1_removeAt_22 : decode cX1_removeAt 22 = .ok (.if_icmp .ge 17, 3) := by decide +kernel
theorem dX1_removeAt_25 : decode cX1_removeAt 25 = .ok (.aload_n 0, 1) := by decide +kernel
theorem dX1_removeAt_26 : decode cX1_removeAt 26 = .ok (.iload_n 2, 1) := by decide +kernel
theorem dX1_removeAt_27 : decode cX1_removeAt 27 = .ok (.iconst 1, 1) := by decide +kernel
theorem dX1_removeAt_28 : decode cX1_removeAt 28 = .ok (.iadd, 1) := by decide +kernel
theorem dX1_removeAt_29 : decode cX1_removeAt 29 = .ok (.iload_n 2, 1) := by decide +kernel
theorem dX1_removeAt_30 : decode cX1_removeAt 30 = .ok (.invokevirtual 39, 3) := by decide +kernel
theorem dX1_removeAt_33 : decode cX1_removeAt 33 = .ok (.iinc 2 1, 3) := by decide +kernel
theorem dX1_removeAt_36 : decode cX1_removeAt 36 = .ok (.goto (-21), 3) := by decide +kernel
theorem dX1_removeAt_39 : decode cX1_removeAt 39 = .ok (.aload_n 0, 1) := by decide +kernel
theorem dX1_removeAt_40 : decode cX1_removeAt 40 = .ok (.dup, 1) := by decide +kernel
theorem dX1_removeAt_41 : decode cX1_removeAt 41 = .ok (.getfield 28, 3) := by decide +kernel
theorem dX1_removeAt_44 : decode cX1_removeAt 44 = .ok (.iconst 1, 1) := by decide +kernel
theorem dX1_removeAt_45 : decode cX1_removeAt 45 = .ok (.isub, 1) := by decide +kernel
theorem dX1_removeAt_46 : decode cX1_removeAt 46 = .ok (.putfield 28, 3) := by decide +kernel
theorem dX1_removeAt_49 : decode cX1_removeAt 49 = .ok (.return_, 1) := by decide +kernel
theorem dX1_move_0 : decode cX1_move 0 = .ok (.aload_n 0, 1) := by decide +kernel
theorem dX1_move_1 : decode cX1_move 1 = .ok (.getfield 9, 3) := by decide +kernel
theorem dX1_move_4 : decode cX1_move 4 = .ok (.iload_n 2, 1) := by decide +kernel
theorem dX1_move_5 : decode cX1_move 5 = .ok (.aload_n 0, 1) := by decide +kernel
theorem dX1_move_6 : decode cX1_move 6 = .ok (.getfield 9, 3) := by decide +kernel
theorem dX1_move_9 : decode cX1_move 9 = .ok (.iload_n 1, 1) := by decide +kernel
theorem dX1_move_10 : decode cX1_move 10 = .ok (.iaload, 1) := by decide +kernel
theorem dX1_move_11 : decode cX1_move 11 = .ok (.iastore, 1) := by decide +kernel
theorem dX1_move_12 : decode cX1_move 12 = .ok (.aload_n 0, 1) := by decide +kernel
theorem dX1_move_13 : decode cX1_move 13 = .ok (.getfield 15, 3) := by decide +kernel
theorem dX1_move_16 : decode cX1_move 16 = .ok (.iload_n 2, 1) := by decide +kernel
theorem dX1_move_17 : decode cX1_move 17 = .ok (.aload_n 0, 1) := by decide +kernel
theorem dX1_move_18 : decode cX1_move 18 = .ok (.getfield 15, 3) := by decide +kernel
theorem dX1_move_21 : decode cX1_move 21 = .ok (.iload_n 1, 1) := by decide +kernel
theorem dX1_move_22 : decode cX1_move 22 = .ok (.iaload, 1) := by decide +kernel
theorem dX1_move_23 : decode cX1_move 23 = .ok (.iastore, 1) := by decide +kernel
theorem dX1_move_24 : decode cX1_move 24 = .ok (.aload_n 0, 1) := by decide +kernel
theorem dX1_move_25 : decode cX1_move 25 = .ok (.getfield 18, 3) := by decide +kernel
theorem dX1_move_28 : decode cX1_move 28 = .ok (.iload_n 2, 1) := by decide +kernel
theorem dX1_move_29 : decode cX1_move 29 = .ok (.aload_n 0, 1) := by decide +kernel
theorem dX1_move_30 : decode cX1_move 30 = .ok (.getfield 18, 3) := by decide +kernel
theorem dX1_move_33 : decode cX1_move 33 = .ok (.iload_n 1, 1) := by decide +kernel
theorem dX1_move_34 : decode cX1_move 34 = .ok (.iaload, 1) := by decide +kernel
theorem dX1_move_35 : decode cX1_move 35 = .ok (.iastore, 1) := by decide +kernel
theorem dX1_move_36 : decode cX1_move 36 = .ok (.aload_n 0, 1) := by decide +kernel
theorem dX1_move_37 : decode cX1_move 37 = .ok (.getfield 21, 3) := by decide +kernel
theorem dX1_move_40 : decode cX1_move 40 = .ok (.iload_n 2, 1) := by decide +kernel
theorem dX1_move_41 : decode cX1_move 41 = .ok (.aload_n 0, 1) := by decide +kernel
theorem dX1_move_42 : decode cX1_move 42 = .ok (.getfield 21, 3) := by decide +kernel
theorem dX1_move_45 : decode cX1_move 45 = .ok (.iload_n 1, 1) := by decide +kernel
theorem dX1_move_46 : decode cX1_move 46 = .ok (.iaload, 1) := by decide +kernel
theorem dX1_move_47 : decode cX1_move 47 = .ok (.iastore, 1) := by decide +kernel
theorem dX1_move_48 : decode cX1_move 48 = .ok (.return_, 1) := by decide +kernel
theorem dX1_placeOf_0 : decode cX1_placeOf 0 = .ok (.iconst 0, 1) := by decide +kernel
theorem dX1_placeOf_1 : decode cX1_placeOf 1 = .ok (.istore_n 2, 1) := by decide +kernel
theorem dX1_placeOf_2 : decode cX1_placeOf 2 = .ok (.iload_n 2, 1) := by decide +kernel
theorem dX1_placeOf_3 : decode cX1_placeOf 3 = .ok (.aload_n 0, 1) := by decide +kernel
theorem dX1_placeOf_4 : decode cX1_placeOf 4 = .ok (.getfield 28, 3) := by decide +kernel
theorem dX1_placeOf_7 : decode cX1_placeOf 7 = .ok (.if_icmp .ge 21, 3) := by decide +kernel
theorem dX1_placeOf_10 : decode cX1_placeOf 10 = .ok (.aload_n 0, 1) := by decide +kernel
theorem dX1_placeOf_11 : decode cX1_placeOf 11 = .ok (.getfield 9, 3) := by decide +kernel
theorem dX1_placeOf_14 : decode cX1_placeOf 14 = .ok (.iload_n 2, 1) := by decide +kernel
theorem dX1_placeOf_15 : decode cX1_placeOf 15 = .ok (.iaload, 1) := by decide +kernel
theorem dX1_placeOf_16 : decode cX1_placeOf 16 = .ok (.iload_n 1, 1) := by decide +kernel
theorem dX1_placeOf_17 : decode cX1_placeOf 17 = .ok (.if_icmp .ne 5, 3) := by decide +kernel
theorem dX1_placeOf_20 : decode cX1_placeOf 20 = .ok (.iload_n 2, 1) := by decide +kernel
theorem dX1_placeOf_21 : decode cX1_placeOf 21 = .ok (.ireturn, 1) := by decide +kernel
theorem dX1_placeOf_22 : decode cX1_placeOf 22 = .ok (.iinc 2 1, 3) := by decide +kernel
theorem dX1_placeOf_25 : decode cX1_placeOf 25 = .ok (.goto (-23), 3) := by decide +kernel
theorem dX1_placeOf_28 : decode cX1_placeOf 28 = .ok (.iconst (-1), 1) := by decide +kernel
theorem dX1_placeOf_29 : decode cX1_placeOf 29 = .ok (.ireturn, 1) := by decide +kernel
theorem dX1_hasAt_0 : decode cX1_hasAt 0 = .ok (.iconst 0, 1) := by decide +kernel
theorem dX1_hasAt_1 : decode cX1_hasAt 1 = .ok (.istore_n 3, 1) := by decide +kernel
theorem dX1_hasAt_2 : decode cX1_hasAt 2 = .ok (.iload_n 3, 1) := by decide +kernel
theorem dX1_hasAt_3 : decode cX1_hasAt 3 = .ok (.aload_n 0, 1) := by decide +kernel
theorem dX1_hasAt_4 : decode cX1_hasAt 4 = .ok (.getfield 28, 3) := by decide +kernel
theorem dX1_hasAt_7 : decode cX1_hasAt 7 = .ok (.if_icmp .ge 31, 3) := by decide +kernel
theorem dX1_hasAt_10 : decode cX1_hasAt 10 = .ok (.aload_n 0, 1) := by decide +kernel
theorem dX1_hasAt_11 : decode cX1_hasAt 11 = .ok (.getfield 15, 3) := by decide +kernel
theorem dX1_hasAt_14 : decode cX1_hasAt 14 = .ok (.iload_n 3, 1) := by decide +kernel
theorem dX1_hasAt_15 : decode cX1_hasAt 15 = .ok (.iaload, 1) := by decide +kernel
theorem dX1_hasAt_16 : decode cX1_hasAt 16 = .ok (.iload_n 1, 1) := by decide +kernel
theorem dX1_hasAt_17 : decode cX1_hasAt 17 = .ok (.if_icmp .ne 15, 3) := by decide +kernel
theorem dX1_hasAt_20 : decode cX1_hasAt 20 = .ok (.aload_n 0, 1) := by decide +kernel
theorem dX1_hasAt_21 : decode cX1_hasAt 21 = .ok (.getfield 18, 3) := by decide +kernel
theorem dX1_hasAt_24 : decode cX1_hasAt 24 = .ok (.iload_n 3, 1) := by decide +kernel
theorem dX1_hasAt_25 : decode cX1_hasAt 25 = .ok (.iaload, 1) := by decide +kernel
theorem dX1_hasAt_26 : decode cX1_hasAt 26 = .ok (.iload_n 2, 1) := by decide +kernel
theorem dX1_hasAt_27 : decode cX1_hasAt 27 = .ok (.if_icmp .ne 5, 3) := by decide +kernel
theorem dX1_hasAt_30 : decode cX1_hasAt 30 = .ok (.iconst 1, 1) := by decide +kernel
theorem dX1_hasAt_31 : decode cX1_hasAt 31 = .ok (.ireturn, 1) := by decide +kernel
theorem dX1_hasAt_32 : decode cX1_hasAt 32 = .ok (.iinc 3 1, 3) := by decide +kernel
theorem dX1_hasAt_35 : decode cX1_hasAt 35 = .ok (.goto (-33), 3) := by decide +kernel
theorem dX1_hasAt_38 : decode cX1_hasAt 38 = .ok (.iconst 0, 1) := by decide +kernel
theorem dX1_hasAt_39 : decode cX1_hasAt 39 = .ok (.ireturn, 1) := by decide +kernel
theorem dX1_aimBehind_0 : decode cX1_aimBehind 0 = .ok (.iload_n 3, 1) := by decide +kernel
theorem dX1_aimBehind_1 : decode cX1_aimBehind 1 = .ok (.istore 4, 2) := by decide +kernel
theorem dX1_aimBehind_3 : decode cX1_aimBehind 3 = .ok (.iconst 0, 1) := by decide +kernel
theorem dX1_aimBehind_4 : decode cX1_aimBehind 4 = .ok (.istore 5, 2) := by decide +kernel
theorem dX1_aimBehind_6 : decode cX1_aimBehind 6 = .ok (.iload 5, 2) := by decide +kernel
theorem dX1_aimBehind_8 : decode cX1_aimBehind 8 = .ok (.aload_n 0, 1) := by decide +kernel
theorem dX1_aimBehind_9 : decode cX1_aimBehind 9 = .ok (.getfield 28, 3) := by decide +kernel
theorem dX1_aimBehind_12 : decode cX1_aimBehind 12 = .ok (.if_icmp .ge 40, 3) := by decide +kernel
theorem dX1_aimBehind_15 : decode cX1_aimBehind 15 = .ok (.aload_n 0, 1) := by decide +kernel
theorem dX1_aimBehind_16 : decode cX1_aimBehind 16 = .ok (.getfield 15, 3) := by decide +kernel
theorem dX1_aimBehind_19 : decode cX1_aimBehind 19 = .ok (.iload 5, 2) := by decide +kernel
theorem dX1_aimBehind_21 : decode cX1_aimBehind 21 = .ok (.iaload, 1) := by decide +kernel
theorem dX1_aimBehind_22 : decode cX1_aimBehind 22 = .ok (.iload_n 1, 1) := by decide +kernel
theorem dX1_aimBehind_23 : decode cX1_aimBehind 23 = .ok (.if_icmp .gt 29, 3) := by decide +kernel
theorem dX1_aimBehind_26 : decode cX1_aimBehind 26 = .ok (.aload_n 0, 1) := by decide +kernel
theorem dX1_aimBehind_27 : decode cX1_aimBehind 27 = .ok (.getfield 18, 3) := by decide +kernel
theorem dX1_aimBehind_30 : decode cX1_aimBehind 30 = .ok (.iload 5, 2) := by decide +kernel
theorem dX1_aimBehind_32 : decode cX1_aimBehind 32 = .ok (.iaload, 1) := by decide +kernel
theorem dX1_aimBehind_33 : decode cX1_aimBehind 33 = .ok (.iload_n 2, 1) := by decide +kernel
theorem dX1_aimBehind_34 : decode cX1_aimBehind 34 = .ok (.if_icmp .ne 12, 3) := by decide +kernel
theorem dX1_aimBehind_37 : decode cX1_aimBehind 37 = .ok (.aload_n 0, 1) := by decide +kernel
theorem dX1_aimBehind_38 : decode cX1_aimBehind 38 = .ok (.getfield 21, 3) := by decide +kernel
theorem dX1_aimBehind_41 : decode cX1_aimBehind 41 = .ok (.iload 5, 2) := by decide +kernel
theorem dX1_aimBehind_43 : decode cX1_aimBehind 43 = .ok (.iaload, 1) := by decide +kernel
theorem dX1_aimBehind_44 : decode cX1_aimBehind 44 = .ok (.istore 4, 2) := by decide +kernel
theorem dX1_aimBehind_46 : decode cX1_aimBehind 46 = .ok (.iinc 5 1, 3) := by decide +kernel
theorem dX1_aimBehind_49 : decode cX1_aimBehind 49 = .ok (.goto (-43), 3) := by decide +kernel
theorem dX1_aimBehind_52 : decode cX1_aimBehind 52 = .ok (.iload 4, 2) := by decide +kernel
theorem dX1_aimBehind_54 : decode cX1_aimBehind 54 = .ok (.ireturn, 1) := by decide +kernel
theorem dX1_numberAt_0 : decode cX1_numberAt 0 = .ok (.iload_n 1, 1) := by decide +kernel
theorem dX1_numberAt_1 : decode cX1_numberAt 1 = .ok (.ifCond .lt 11, 3) := by decide +kernel
theorem dX1_numberAt_4 : decode cX1_numberAt 4 = .ok (.iload_n 1, 1) := by decide +kernel
theorem dX1_numberAt_5 : decode cX1_numberAt 5 = .ok (.aload_n 0, 1) := by decide +kernel
theorem dX1_numberAt_6 : decode cX1_numberAt 6 = .ok (.getfield 28, 3) := by decide +kernel
theorem dX1_numberAt_9 : decode cX1_numberAt 9 = .ok (.if_icmp .lt 5, 3) := by decide +kernel
theorem dX1_numberAt_12 : decode cX1_numberAt 12 = .ok (.iconst (-1), 1) := by decide +kernel
theorem dX1_numberAt_13 : decode cX1_numberAt 13 = .ok (.ireturn, 1) := by decide +kernel
theorem dX1_numberAt_14 : decode cX1_numberAt 14 = .ok (.iload_n 2, 1) := by decide +kernel
theorem dX1_numberAt_15 : decode cX1_numberAt 15 = .ok (.tableswitch 46 0 2 #[25, 32, 39], 25) := by decide +kernel
theorem dX1_numberAt_40 : decode cX1_numberAt 40 = .ok (.aload_n 0, 1) := by decide +kernel
theorem dX1_numberAt_41 : decode cX1_numberAt 41 = .ok (.getfield 9, 3) := by decide +kernel
theorem dX1_numberAt_44 : decode cX1_numberAt 44 = .ok (.iload_n 1, 1) := by decide +kernel
theorem dX1_numberAt_45 : decode cX1_numberAt 45 = .ok (.iaload, 1) := by decide +kernel
theorem dX1_numberAt_46 : decode cX1_numberAt 46 = .ok (.ireturn, 1) := by decide +kernel
theorem dX1_numberAt_47 : decode cX1_numberAt 47 = .ok (.aload_n 0, 1) := by decide +kernel
theorem dX1_numberAt_48 : decode cX1_numberAt 48 = .ok (.getfield 15, 3) := by decide +kernel
theorem dX1_numberAt_51 : decode cX1_numberAt 51 = .ok (.iload_n 1, 1) := by decide +kernel
theorem dX1_numberAt_52 : decode cX1_numberAt 52 = .ok (.iaload, 1) := by decide +kernel
theorem dX1_numberAt_53 : decode cX1_numberAt 53 = .ok (.ireturn, 1) := by decide +kernel
theorem dX1_numberAt_54 : decode cX1_numberAt 54 = .ok (.aload_n 0, 1) := by decide +kernel
theorem dX1_numberAt_55 : decode cX1_numberAt 55 = .ok (.getfield 18, 3) := by decide +kernel
theorem dX1_numberAt_58 : decode cX1_numberAt 58 = .ok (.iload_n 1, 1) := by decide +kernel
theorem dX1_numberAt_59 : decode cX1_numberAt 59 = .ok (.iaload, 1) := by decide +kernel
theorem dX1_numberAt_60 : decode cX1_numberAt 60 = .ok (.ireturn, 1) := by decide +kernel
theorem dX1_numberAt_61 : decode cX1_numberAt 61 = .ok (.aload_n 0, 1) := by decide +kernel
theorem dX1_numberAt_62 : decode cX1_numberAt 62 = .ok (.getfield 21, 3) := by decide +kernel
theorem dX1_numberAt_65 : decode cX1_numberAt 65 = .ok (.iload_n 1, 1) := by decide +kernel
theorem dX1_numberAt_66 : decode cX1_numberAt 66 = .ok (.iaload, 1) := by decide +kernel
theorem dX1_numberAt_67 : decode cX1_numberAt 67 = .ok (.ireturn, 1) := by decide +kernel
theorem dX2_init_0 : decode cX2_init 0 = .ok (.aload_n 0, 1) := by decide +kernel
theorem dX2_init_1 : decode cX2_init 1 = .ok (.invokespecial 3, 3) := by decide +kernel
theorem dX2_init_4 : decode cX2_init 4 = .ok (.aload_n 0, 1) := by decide +kernel
theorem dX2_init_5 : decode cX2_init 5 = .ok (.bipush 8, 2) := by decide +kernel
theorem dX2_init_7 : decode cX2_init 7 = .ok (.newarray .int, 2) := by decide +kernel
theorem dX2_init_9 : decode cX2_init 9 = .ok (.putfield 9, 3) := by decide +kernel
theorem dX2_init_12 : decode cX2_init 12 = .ok (.aload_n 0, 1) := by decide +kernel
theorem dX2_init_13 : decode cX2_init 13 = .ok (.bipush 8, 2) := by decide +kernel
theorem dX2_init_15 : decode cX2_init 15 = .ok (.newarray .int, 2) := by decide +kernel
theorem dX2_init_17 : decode cX2_init 17 = .ok (.putfield 15, 3) := by decide +kernel
theorem dX2_init_20 : decode cX2_init 20 = .ok (.aload_n 0, 1) := by decide +kernel
theorem dX2_init_21 : decode cX2_init 21 = .ok (.bipush 8, 2) := by decide +kernel
theorem dX2_init_23 : decode cX2_init 23 = .ok (.newarray .int, 2) := by decide +kernel
theorem dX2_init_25 : decode cX2_init 25 = .ok (.putfield 18, 3) := by decide +kernel
theorem dX2_init_28 : decode cX2_init 28 = .ok (.aload_n 0, 1) := by decide +kernel
theorem dX2_init_29 : decode cX2_init 29 = .ok (.bipush 8, 2) := by decide +kernel
theorem dX2_init_31 : decode cX2_init 31 = .ok (.newarray .int, 2) := by decide +kernel
theorem dX2_init_33 : decode cX2_init 33 = .ok (.putfield 21, 3) := by decide +kernel
theorem dX2_init_36 : decode cX2_init 36 = .ok (.aload_n 0, 1) := by decide +kernel
theorem dX2_init_37 : decode cX2_init 37 = .ok (.iconst 2, 1) := by decide +kernel
theorem dX2_init_38 : decode cX2_init 38 = .ok (.newarray .int, 2) := by decide +kernel
theorem dX2_init_40 : decode cX2_init 40 = .ok (.putfield 24, 3) := by decide +kernel
theorem dX2_init_43 : decode cX2_init 43 = .ok (.aload_n 0, 1) := by decide +kernel
theorem dX2_init_44 : decode cX2_init 44 = .ok (.iconst 3, 1) := by decide +kernel
theorem dX2_init_45 : decode cX2_init 45 = .ok (.newarray .int, 2) := by decide +kernel
theorem dX2_init_47 : decode cX2_init 47 = .ok (.putfield 27, 3) := by decide +kernel
theorem dX2_init_50 : decode cX2_init 50 = .ok (.iconst 0, 1) := by decide +kernel
theorem dX2_init_51 : decode cX2_init 51 = .ok (.istore_n 1, 1) := by decide +kernel
theorem dX2_init_52 : decode cX2_init 52 = .ok (.iload_n 1, 1) := by decide +kernel
theorem dX2_init_53 : decode cX2_init 53 = .ok (.bipush 8, 2) := by decide +kernel
theorem dX2_init_55 : decode cX2_init 55 = .ok (.if_icmp .ge 16, 3) := by decide +kernel
theorem dX2_init_58 : decode cX2_init 58 = .ok (.aload_n 0, 1) := by decide +kernel
theorem dX2_init_59 : decode cX2_init 59 = .ok (.getfield 9, 3) := by decide +kernel
theorem dX2_init_62 : decode cX2_init 62 = .ok (.iload_n 1, 1) := by decide +kernel
theorem dX2_init_63 : decode cX2_init 63 = .ok (.iconst 5, 1) := by decide +kernel
theorem dX2_init_64 : decode cX2_init 64 = .ok (.iastore, 1) := by decide +kernel
theorem dX2_init_65 : decode cX2_init 65 = .ok (.iinc 1 1, 3) := by decide +kernel
theorem dX2_init_68 : decode cX2_init 68 = .ok (.goto (-16), 3) := by decide +kernel
theorem dX2_init_71 : decode cX2_init 71 = .ok (.iconst 0, 1) := by decide +kernel
theorem dX2_init_72 : decode cX2_init 72 = .ok (.istore_n 1, 1) := by decide +kernel
theorem dX2_init_73 : decode cX2_init 73 = .ok (.iload_n 1, 1) := by decide +kernel
theorem dX2_init_74 : decode cX2_init 74 = .ok (.iconst 2, 1) := by decide +kernel
theorem dX2_init_75 : decode cX2_init 75 = .ok (.if_icmp .ge 18, 3) := by decide +kernel
theorem dX2_init_78 : decode cX2_init 78 = .ok (.aload_n 0, 1) := by decide +kernel
theorem dX2_init_79 : decode cX2_init 79 = .ok (.getfield 24, 3) := by decide +kernel
theorem dX2_init_82 : decode cX2_init 82 = .ok (.iload_n 1, 1) := by decide +kernel
theorem dX2_init_83 : decode cX2_init 83 = .ok (.sipush 300, 3) := by decide +kernel
theorem dX2_init_86 : decode cX2_init 86 = .ok (.iastore, 1) := by decide +kernel
theorem dX2_init_87 : decode cX2_init 87 = .ok (.iinc 1 1, 3) := by decide +kernel
theorem dX2_init_90 : decode cX2_init 90 = .ok (.goto (-17), 3) := by decide +kernel
theorem dX2_init_93 : decode cX2_init 93 = .ok (.aload_n 0, 1) := by decide +kernel
theorem dX2_init_94 : decode cX2_init 94 = .ok (.getfield 27, 3) := by decide +kernel
theorem dX2_init_97 : decode cX2_init 97 = .ok (.iconst 0, 1) := by decide +kernel
theorem dX2_init_98 : decode cX2_init 98 = .ok (.iconst 4, 1) := by decide +kernel
theorem dX2_init_99 : decode cX2_init 99 = .ok (.iastore, 1) := by decide +kernel
theorem dX2_init_100 : decode cX2_init 100 = .ok (.aload_n 0, 1) := by decide +kernel
theorem dX2_init_101 : decode cX2_init 101 = .ok (.getfield 27, 3) := by decide +kernel
theorem dX2_init_104 : decode cX2_init 104 = .ok (.iconst 1, 1) := by decide +kernel
theorem dX2_init_105 : decode cX2_init 105 = .ok (.iconst 2, 1) := by decide +kernel
theorem dX2_init_106 : decode cX2_init 106 = .ok (.iastore, 1) := by decide +kernel
theorem dX2_init_107 : decode cX2_init 107 = .ok (.aload_n 0, 1) := by decide +kernel
theorem dX2_init_108 : decode cX2_init 108 = .ok (.getfield 27, 3) := by decide +kernel
theorem dX2_init_111 : decode cX2_init 111 = .ok (.iconst 2, 1) := by decide +kernel
theorem dX2_init_112 : decode cX2_init 112 = .ok (.iconst 3, 1) := by decide +kernel
theorem dX2_init_113 : decode cX2_init 113 = .ok (.iastore, 1) := by decide +kernel
theorem dX2_init_114 : decode cX2_init 114 = .ok (.return_, 1) := by decide +kernel
set_option maxRecDepth 20000 in
theorem ggX2_copyFrom_X5_copyRow : GoodIn wsX2_copyFrom wsX5_copyRow := goodIn_r _ [10] (by decide +kernel) (by decide +kernel)
set_option maxRecDepth 20000 in
theorem gX2_copyFrom_X5_copyRow_n30 : GoodIn wsX2_copyFrom (wsX5_copyRow) := ggX2_copyFrom_X5_copyRow
theorem dX2_copyFrom_0 : decode cX2_copyFrom 0 = .ok (.aload_n 1, 1) := by decide +kernel
theorem dX2_copyFrom_1 : decode cX2_copyFrom 1 = .ok (.getfield 9, 3) := by decide +kernel
theorem dX2_copyFrom_4 : decode cX2_copyFrom 4 = .ok (.aload_n 0, 1) := by decide +kernel
theorem dX2_copyFrom_5 : decode cX2_copyFrom 5 = .ok (.getfield 9, 3) := by decide +kernel
theorem dX2_copyFrom_8 : decode cX2_copyFrom 8 = .ok (.invokestatic 30, 3) := by decide +kernel
theorem dX2_copyFrom_11 : decode cX2_copyFrom 11 = .ok (.aload_n 1, 1) := by decide +kernel
theorem dX2_copyFrom_12 : decode cX2_copyFrom 12 = .ok (.getfield 15, 3) := by decide +kernel
theorem dX2_copyFrom_15 : decode cX2_copyFrom 15 = .ok (.aload_n 0, 1) := by decide +kernel
theorem dX2_copyFrom_16 : decode cX2_copyFrom 16 = .ok (.getfield 15, 3) := by decide +kernel
theorem dX2_copyFrom_19 : decode cX2_copyFrom 19 = .ok (.invokestatic 30, 3) := by decide +kernel
theorem dX2_copyFrom_22 : decode cX2_copyFrom 22 = .ok (.aload_n 1, 1) := by decide +kernel
theorem dX2_copyFrom_23 : decode cX2_copyFrom 23 = .ok (.getfield 18, 3) := by decide +kernel
theorem dX2_copyFrom_26 : decode cX2_copyFrom 26 = .ok (.aload_n 0, 1) := by decide +kernel
theorem dX2_copyFrom_27 : decode cX2_copyFrom 27 = .ok (.getfield 18, 3) := by decide +kernel
theorem dX2_copyFrom_30 : decode cX2_copyFrom 30 = .ok (.invokestatic 30, 3) := by decide +kernel
theorem dX2_copyFrom_33 : decode cX2_copyFrom 33 = .ok (.aload_n 1, 1) := by decide +kernel
theorem dX2_copyFrom_34 : decode cX2_copyFrom 34 = .ok (.getfield 21, 3) := by decide +kernel
theorem dX2_copyFrom_37 : decode cX2_copyFrom 37 = .ok (.aload_n 0, 1) := by decide +kernel
theorem dX2_copyFrom_38 : decode cX2_copyFrom 38 = .ok (.getfield 21, 3) := by decide +kernel
theorem dX2_copyFrom_41 : decode cX2_copyFrom 41 = .ok (.invokestatic 30, 3) := by decide +kernel
theorem dX2_copyFrom_44 : decode cX2_copyFrom 44 = .ok (.aload_n 1, 1) := by decide +kernel
theorem dX2_copyFrom_45 : decode cX2_copyFrom 45 = .ok (.getfield 24, 3) := by decide +kernel
theorem dX2_copyFrom_48 : decode cX2_copyFrom 48 = .ok (.aload_n 0, 1) := by decide +kernel
theorem dX2_copyFrom_49 : decode cX2_copyFrom 49 = .ok (.getfield 24, 3) := by decide +kernel
theorem dX2_copyFrom_52 : decode cX2_copyFrom 52 = .ok (.invokestatic 30, 3) := by decide +kernel
theorem dX2_copyFrom_55 : decode cX2_copyFrom 55 = .ok (.aload_n 1, 1) := by decide +kernel
theorem dX2_copyFrom_56 : decode cX2_copyFrom 56 = .ok (.getfield 27, 3) := by decide +kernel
theorem dX2_copyFrom_59 : decode cX2_copyFrom 59 = .ok (.aload_n 0, 1) := by decide +kernel
theorem dX2_copyFrom_60 : decode cX2_copyFrom 60 = .ok (.getfield 27, 3) := by decide +kernel
theorem dX2_copyFrom_63 : decode cX2_copyFrom 63 = .ok (.invokestatic 30, 3) := by decide +kernel
theorem dX2_copyFrom_66 : decode cX2_copyFrom 66 = .ok (.aload_n 0, 1) := by decide +kernel
theorem dX2_copyFrom_67 : decode cX2_copyFrom 67 = .ok (.aload_n 1, 1) := by decide +kernel
theorem dX2_copyFrom_68 : decode cX2_copyFrom 68 = .ok (.getfield 34, 3) := by decide +kernel
theorem dX2_copyFrom_71 : decode cX2_copyFrom 71 = .ok (.putfield 34, 3) := by decide +kernel
theorem dX2_copyFrom_74 : decode cX2_copyFrom 74 = .ok (.return_, 1) := by decide +kernel
theorem dX2_moveValves_0 : decode cX2_moveValves 0 = .ok (.aload_n 0, 1) := by decide +kernel
theorem dX2_moveValves_1 : decode cX2_moveValves 1 = .ok (.getfield 27, 3) := by decide +kernel
theorem dX2_moveValves_4 : decode cX2_moveValves 4 = .ok (.iconst 2, 1) := by decide +kernel
theorem dX2_moveValves_5 : decode cX2_moveValves 5 = .ok (.iaload, 1) := by decide +kernel
theorem dX2_moveValves_6 : decode cX2_moveValves 6 = .ok (.istore_n 1, 1) := by decide +kernel
theorem dX2_moveValves_7 : decode cX2_moveValves 7 = .ok (.iconst 0, 1) := by decide +kernel
theorem dX2_moveValves_8 : decode cX2_moveValves 8 = .ok (.istore_n 2, 1) := by decide +kernel
theorem dX2_moveValves_9 : decode cX2_moveValves 9 = .ok (.iload_n 2, 1) := by decide +kernel
theorem dX2_moveValves_10 : decode cX2_moveValves 10 = .ok (.bipush 8, 2) := by decide +kernel
theorem dX2_moveValves_12 : decode cX2_moveValves 12 = .ok (.if_icmp .ge 42, 3) := by decide +kernel
theorem dX2_moveValves_15 : decode cX2_moveValves 15 = .ok (.aload_n 0, 1) := by decide +kernel
theorem dX2_moveValves_16 : decode cX2_moveValves 16 = .ok (.getfield 21, 3) := by decide +kernel
theorem dX2_moveValves_19 : decode cX2_moveValves 19 = .ok (.iload_n 2, 1) := by decide +kernel
theorem dX2_moveValves_20 : decode cX2_moveValves 20 = .ok (.iaload, 1) := by decide +kernel
theorem dX2_moveValves_21 : decode cX2_moveValves 21 = .ok (.aload_n 0, 1) := by decide +kernel
theorem dX2_moveValves_22 : decode cX2_moveValves 22 = .ok (.getfield 18, 3) := by decide +kernel
theorem dX2_moveValves_25 : decode cX2_moveValves 25 = .ok (.iload_n 2, 1) := by decide +kernel
theorem dX2_moveValves_26 : decode cX2_moveValves 26 = .ok (.iaload, 1) := by decide +kernel
theorem dX2_moveValves_27 : decode cX2_moveValves 27 = .ok (.isub, 1) := by decide +kernel
theorem dX2_moveValves_28 : decode cX2_moveValves 28 = .ok (.istore_n 3, 1) := by decide +kernel
theorem dX2_moveValves_29 : decode cX2_moveValves 29 = .ok (.aload_n 0, 1) := by decide +kernel
theorem dX2_moveValves_30 : decode cX2_moveValves 30 = .ok (.getfield 18, 3) := by decide +kernel
theorem dX2_moveValves_33 : decode cX2_moveValves 33 = .ok (.iload_n 2, 1) := by decide +kernel
theorem dX2_moveValves_34 : decode cX2_moveValves 34 = .ok (.dup2, 1) := by decide +kernel
theorem dX2_moveValves_35 : decode cX2_moveValves 35 = .ok (.iaload, 1) := by decide +kernel
theorem dX2_moveValves_36 : decode cX2_moveValves 36 = .ok (.iload_n 1, 1) := by decide +kernel
theorem dX2_moveValves_37 : decode cX2_moveValves 37 = .ok (.ineg, 1) := by decide +kernel
theorem dX2_moveValves_38 : decode cX2_moveValves 38 = .ok (.iload_n 1, 1) := by decide +kernel
theorem dX2_moveValves_39 : decode cX2_moveValves 39 = .ok (.iload_n 3, 1) := by decide +kernel
theorem dX2_moveValves_40 : decode cX2_moveValves 40 = .ok (.invokestatic 38, 3) := by decide +kernel
theorem dX2_moveValves_43 : decode cX2_moveValves 43 = .ok (.invokestatic 44, 3) := by decide +kernel
theorem dX2_moveValves_46 : decode cX2_moveValves 46 = .ok (.iadd, 1) := by decide +kernel
theorem dX2_moveValves_47 : decode cX2_moveValves 47 = .ok (.iastore, 1) := by decide +kernel
theorem dX2_moveValves_48 : decode cX2_moveValves 48 = .ok (.iinc 2 1, 3) := by decide +kernel
theorem dX2_moveValves_51 : decode cX2_moveValves 51 = .ok (.goto (-42), 3) := by decide +kernel
theorem dX2_moveValves_54 : decode cX2_moveValves 54 = .ok (.return_, 1) := by decide +kernel
theorem dX2_asks_0 : decode cX2_asks 0 = .ok (.aload_n 0, 1) := by decide +kernel
theorem dX2_asks_1 : decode cX2_asks 1 = .ok (.getfield 9, 3) := by decide +kernel
theorem dX2_asks_4 : decode cX2_asks 4 = .ok (.iload_n 1, 1) := by decide +kernel
theorem dX2_asks_5 : decode cX2_asks 5 = .ok (.iaload, 1) := by decide +kernel
theorem dX2_asks_6 : decode cX2_asks 6 = .ok (.aload_n 0, 1) := by decide +kernel
theorem dX2_asks_7 : decode cX2_asks 7 = .ok (.getfield 18, 3) := by decide +kernel
theorem dX2_asks_10 : decode cX2_asks 10 = .ok (.iload_n 1, 1) := by decide +kernel
theorem dX2_asks_11 : decode cX2_asks 11 = .ok (.iaload, 1) := by decide +kernel
theorem dX2_asks_12 : decode cX2_asks 12 = .ok (.imul, 1) := by decide +kernel
theorem dX2_asks_13 : decode cX2_asks 13 = .ok (.ireturn, 1) := by decide +kernel
set_option maxRecDepth 20000 in
theorem ggX2_pumpAsks_X2_asks : GoodIn wsX2_pumpAsks wsX2_asks := goodIn_r _ [5, 6, 7, 8, 9, 10, 11, 12, 13, 14] (by decide +kernel) (by decide +kernel)
set_option maxRecDepth 20000 in
theorem gX2_pumpAsks_X2_asks : GoodIn wsX2_pumpAsks (wsV RX2 47 RX2 yX2_asks wsX2_asks) := goodIn_app (goodIn_of _ (by decide +kernel)) ggX2_pumpAsks_X2_asks
theorem dX2_pumpAsks_0 : decode cX2_pumpAsks 0 = .ok (.iconst 0, 1) := by decide +kernel
theorem dX2_pumpAsks_1 : decode cX2_pumpAsks 1 = .ok (.istore_n 2, 1) := by decide +kernel
theorem dX2_pumpAsks_2 : decode cX2_pumpAsks 2 = .ok (.iconst 0, 1) := by decide +kernel
theorem dX2_pumpAsks_3 : decode cX2_pumpAsks 3 = .ok (.istore_n 3, 1) := by decide +kernel
theorem dX2_pumpAsks_4 : decode cX2_pumpAsks 4 = .ok (.iload_n 3, 1) := by decide +kernel
theorem dX2_pumpAsks_5 : decode cX2_pumpAsks 5 = .ok (.iconst 4, 1) := by decide +kernel
theorem dX2_pumpAsks_6 : decode cX2_pumpAsks 6 = .ok (.if_icmp .ge 21, 3) := by decide +kernel
theorem dX2_pumpAsks_9 : decode cX2_pumpAsks 9 = .ok (.iload_n 2, 1) := by decide +kernel
theorem dX2_pumpAsks_10 : decode cX2_pumpAsks 10 = .ok (.aload_n 0, 1) := by decide +kernel
theorem dX2_pumpAsks_11 : decode cX2_pumpAsks 11 = .ok (.iload_n 1, 1) := by decide +kernel
theorem dX2_pumpAsks_12 : decode cX2_pumpAsks 12 = .ok (.iconst 4, 1) := by decide +kernel
theorem dX2_pumpAsks_13 : decode cX2_pumpAsks 13 = .ok (.imul, 1) := by decide +kernel
theorem dX2_pumpAsks_14 : decode cX2_pumpAsks 14 = .ok (.iload_n 3, 1) := by decide +kernel
theorem dX2_pumpAsks_15 : decode cX2_pumpAsks 15 = .ok (.iadd, 1) := by decide +kernel
theorem dX2_pumpAsks_16 : decode cX2_pumpAsks 16 = .ok (.invokevirtual 47, 3) := by decide +kernel
theorem dX2_pumpAsks_19 : decode cX2_pumpAsks 19 = .ok (.iadd, 1) := by decide +kernel
theorem dX2_pumpAsks_20 : decode cX2_pumpAsks 20 = .ok (.istore_n 2, 1) := by decide +kernel
theorem dX2_pumpAsks_21 : decode cX2_pumpAsks 21 = .ok (.iinc 3 1, 3) := by decide +kernel
theorem dX2_pumpAsks_24 : decode cX2_pumpAsks 24 = .ok (.goto (-20), 3) := by decide +kernel
theorem dX2_pumpAsks_27 : decode cX2_pumpAsks 27 = .ok (.iload_n 2, 1) := by decide +kernel
theorem dX2_pumpAsks_28 : decode cX2_pumpAsks 28 = .ok (.ireturn, 1) := by decide +kernel
set_option maxRecDepth 20000 in
theorem ggX2_gets_X2_pumpAsks : GoodIn wsX2_gets wsX2_pumpAsks := goodIn_r _ [5, 6, 7, 8, 4, 9, 10, 11, 33, 34, 35, 36, 37, 38, 39] (by decide +kernel) (by decide +kernel)
set_option maxRecDepth 20000 in
theorem gX2_gets_X2_pumpAsks : GoodIn wsX2_gets (wsV RX2 51 RX2 yX2_pumpAsks wsX2_pumpAsks) := goodIn_app (goodIn_of _ (by decide +kernel)) ggX2_gets_X2_pumpAsks
set_option maxRecDepth 20000 in
theorem ggX2_gets_X2_partOf : GoodIn wsX2_gets wsX2_partOf := goodIn_r _ [15, 16, 10, 17, 18, 19, 20, 6, 7, 8, 4, 9, 11, 21, 22, 23, 24, 25, 26, 27, 28, 29, 30, 31, 32, 33, 34, 35, 36, 37, 38, 39] (by decide +kernel) (by decide +kernel)
set_option maxRecDepth 20000 in
theorem gX2_gets_X2_partOf : GoodIn wsX2_gets (wsV RX2 54 RX2 yX2_partOf wsX2_partOf) := goodIn_app (goodIn_of _ (by decide +kernel)) ggX2_gets_X2_partOf
theorem dX2_gets_0 : decode cX2_gets 0 = .ok (.aload_n 0, 1) := by decide +kernel
theorem dX2_gets_1 : decode cX2_gets 1 = .ok (.iload_n 1, 1) := by decide +kernel
theorem dX2_gets_2 : decode cX2_gets 2 = .ok (.aload_n 0, 1) := by decide +kernel
theorem dX2_gets_3 : decode cX2_gets 3 = .ok (.iload_n 1, 1) := by decide +kernel
theorem dX2_gets_4 : decode cX2_gets 4 = .ok (.iconst 4, 1) := by decide +kernel
theorem dX2_gets_5 : decode cX2_gets 5 = .ok (.idiv, 1) := by decide +kernel
theorem dX2_gets_6 : decode cX2_gets 6 = .ok (.invokevirtual 51, 3) := by decide +kernel
theorem dX2_gets_9 : decode cX2_gets 9 = .ok (.invokevirtual 54, 3) := by decide +kernel
theorem dX2_gets_12 : decode cX2_gets 12 = .ok (.ireturn, 1) := by decide +kernel
set_option maxRecDepth 20000 in
theorem ggX2_partOf_X2_asks : GoodIn wsX2_partOf wsX2_asks := goodIn_r _ [11, 2, 12, 25, 26, 27, 28, 29, 30, 31] (by decide +kernel) (by decide +kernel)
set_option maxRecDepth 20000 in
theorem gX2_partOf_X2_asks : GoodIn wsX2_partOf (wsV RX2 47 RX2 yX2_asks wsX2_asks) := goodIn_app (goodIn_of _ (by decide +kernel)) ggX2_partOf_X2_asks
set_option maxRecDepth 20000 in
theorem ggX2_partOf_X5_quotient : GoodIn wsX2_partOf wsX5_quotient := goodIn_r _ [15] (by decide +kernel) (by decide +kernel)
set_option maxRecDepth 20000 in
theorem gX2_partOf_X5_quotient_n57 : GoodIn wsX2_partOf (wsX5_quotient) := ggX2_partOf_X5_quotient
set_option maxRecDepth 20000 in
theorem ggX2_partOf_X2_highestInWind : GoodIn wsX2_partOf wsX2_highestInWind := goodIn_r _ [19, 20, 21, 22, 23, 5, 24, 25, 26, 27, 28, 29, 30, 31] (by decide +kernel) (by decide +kernel)
set_option maxRecDepth 20000 in
theorem gX2_partOf_X2_highestInWind : GoodIn wsX2_partOf (wsV RX2 60 RX2 yX2_highestInWind wsX2_highestInWind) := goodIn_app (goodIn_of _ (by decide +kernel)) ggX2_partOf_X2_highestInWind
theorem dX2_partOf_0 : decode cX2_partOf 0 = .ok (.aload_n 0, 1) := by decide +kernel
theorem dX2_partOf_1 : decode cX2_partOf 1 = .ok (.getfield 24, 3) := by decide +kernel
theorem dX2_partOf_4 : decode cX2_partOf 4 = .ok (.iload_n 1, 1) := by decide +kernel
theorem dX2_partOf_5 : decode cX2_partOf 5 = .ok (.iconst 4, 1) := by decide +kernel
theorem dX2_partOf_6 : decode cX2_partOf 6 = .ok (.idiv, 1) := by decide +kernel
theorem dX2_partOf_7 : decode cX2_partOf 7 = .ok (.iaload, 1) := by decide +kernel
theorem dX2_partOf_8 : decode cX2_partOf 8 = .ok (.istore_n 3, 1) := by decide +kernel
theorem dX2_partOf_9 : decode cX2_partOf 9 = .ok (.aload_n 0, 1) := by decide +kernel
theorem dX2_partOf_10 : decode cX2_partOf 10 = .ok (.iload_n 1, 1) := by decide +kernel
theorem dX2_partOf_11 : decode cX2_partOf 11 = .ok (.invokevirtual 47, 3) := by decide +kernel
theorem dX2_partOf_14 : decode cX2_partOf 14 = .ok (.istore 4, 2) := by decide +kernel
theorem dX2_partOf_16 : decode cX2_partOf 16 = .ok (.iload_n 2, 1) := by decide +kernel
theorem dX2_partOf_17 : decode cX2_partOf 17 = .ok (.iload_n 3, 1) := by decide +kernel
theorem dX2_partOf_18 : decode cX2_partOf 18 = .ok (.if_icmp .le 13, 3) := by decide +kernel
theorem dX2_partOf_21 : decode cX2_partOf 21 = .ok (.iload 4, 2) := by decide +kernel
theorem dX2_partOf_23 : decode cX2_partOf 23 = .ok (.iload_n 3, 1) := by decide +kernel
theorem dX2_partOf_24 : decode cX2_partOf 24 = .ok (.imul, 1) := by decide +kernel
theorem dX2_partOf_25 : decode cX2_partOf 25 = .ok (.iload_n 2, 1) := by decide +kernel
theorem dX2_partOf_26 : decode cX2_partOf 26 = .ok (.invokestatic 57, 3) := by decide +kernel
theorem dX2_partOf_29 : decode cX2_partOf 29 = .ok (.istore 4, 2) := by decide +kernel
theorem dX2_partOf_31 : decode cX2_partOf 31 = .ok (.iload 4, 2) := by decide +kernel
theorem dX2_partOf_33 : decode cX2_partOf 33 = .ok (.aload_n 0, 1) := by decide +kernel
theorem dX2_partOf_34 : decode cX2_partOf 34 = .ok (.invokevirtual 60, 3) := by decide +kernel
theorem dX2_partOf_37 : decode cX2_partOf 37 = .ok (.aload_n 0, 1) := by decide +kernel
theorem dX2_partOf_38 : decode cX2_partOf 38 = .ok (.getfield 9, 3) := by decide +kernel
theorem dX2_partOf_41 : decode cX2_partOf 41 = .ok (.iload_n 1, 1) := by decide +kernel
theorem dX2_partOf_42 : decode cX2_partOf 42 = .ok (.iaload, 1) := by decide +kernel
theorem dX2_partOf_43 : decode cX2_partOf 43 = .ok (.imul, 1) := by decide +kernel
theorem dX2_partOf_44 : decode cX2_partOf 44 = .ok (.invokestatic 38, 3) := by decide +kernel
theorem dX2_partOf_47 : decode cX2_partOf 47 = .ok (.ireturn, 1) := by decide +kernel
set_option maxRecDepth 20000 in
theorem ggX2_pumpGives_X2_pumpAsks : GoodIn wsX2_pumpGives wsX2_pumpAsks := goodIn_r _ [5, 6, 7, 8, 4, 9, 10, 11, 33, 34, 35, 36, 37, 38, 39] (by decide +kernel) (by decide +kernel)
set_option maxRecDepth 20000 in
theorem gX2_pumpGives_X2_pumpAsks : GoodIn wsX2_pumpGives (wsV RX2 51 RX2 yX2_pumpAsks wsX2_pumpAsks) := goodIn_app (goodIn_of _ (by decide +kernel)) ggX2_pumpGives_X2_pumpAsks
set_option maxRecDepth 20000 in
theorem ggX2_pumpGives_X2_partOf : GoodIn wsX2_pumpGives wsX2_partOf := goodIn_r _ [15, 16, 10, 17, 18, 19, 20, 6, 7, 8, 4, 9, 11, 21, 22, 23, 24, 25, 26, 27, 28, 29, 30, 31, 32, 33, 34, 35, 36, 37, 38, 39] (by decide +kernel) (by decide +kernel)
set_option maxRecDepth 20000 in
theorem gX2_pumpGives_X2_partOf : GoodIn wsX2_pumpGives (wsV RX2 54 RX2 yX2_partOf wsX2_partOf) := goodIn_app (goodIn_of _ (by decide +kernel)) ggX2_pumpGives_X2_partOf
theorem dX2_pumpGives_0 : decode cX2_pumpGives 0 = .ok (.aload_n 0, 1) := by decide +kernel
theorem dX2_pumpGives_1 : decode cX2_pumpGives 1 = .ok (.iload_n 1, 1) := by decide +kernel
theorem dX2_pumpGives_2 : decode cX2_pumpGives 2 = .ok (.invokevirtual 51, 3) := by decide +kernel
theorem dX2_pumpGives_5 : decode cX2_pumpGives 5 = .ok (.istore_n 2, 1) := by decide +kernel
theorem dX2_pumpGives_6 : decode cX2_pumpGives 6 = .ok (.iconst 0, 1) := by decide +kernel
theorem dX2_pumpGives_7 : decode cX2_pumpGives 7 = .ok (.istore_n 3, 1) := by decide +kernel
theorem dX2_pumpGives_8 : decode cX2_pumpGives 8 = .ok (.iconst 0, 1) := by decide +kernel
theorem dX2_pumpGives_9 : decode cX2_pumpGives 9 = .ok (.istore 4, 2) := by decide +kernel
theorem dX2_pumpGives_11 : decode cX2_pumpGives 11 = .ok (.iload 4, 2) := by decide +kernel
theorem dX2_pumpGives_13 : decode cX2_pumpGives 13 = .ok (.iconst 4, 1) := by decide +kernel
theorem dX2_pumpGives_14 : decode cX2_pumpGives 14 = .ok (.if_icmp .ge 23, 3) := by decide +kernel
theorem dX2_pumpGives_17 : decode cX2_pumpGives 17 = .ok (.iload_n 3, 1) := by decide +kernel
theorem dX2_pumpGives_18 : decode cX2_pumpGives 18 = .ok (.aload_n 0, 1) := by decide +kernel
theorem dX2_pumpGives_19 : decode cX2_pumpGives 19 = .ok (.iload_n 1, 1) := by decide +kernel
theorem dX2_pumpGives_20 : decode cX2_pumpGives 20 = .ok (.iconst 4, 1) := by decide +kernel
theorem dX2_pumpGives_21 : decode cX2_pumpGives 21 = .ok (.imul, 1) := by decide +kernel
theorem dX2_pumpGives_22 : decode cX2_pumpGives 22 = .ok (.iload 4, 2) := by decide +kernel
theorem dX2_pumpGives_24 : decode cX2_pumpGives 24 = .ok (.iadd, 1) := by decide +kernel
theorem dX2_pumpGives_25 : decode cX2_pumpGives 25 = .ok (.iload_n 2, 1) := by decide +kernel
theorem dX2_pumpGives_26 : decode cX2_pumpGives 26 = .ok (.invokevirtual 54, 3) := by decide +kernel
theorem dX2_pumpGives_29 : decode cX2_pumpGives 29 = .ok (.iadd, 1) := by decide +kernel
theorem dX2_pumpGives_30 : decode cX2_pumpGives 30 = .ok (.istore_n 3, 1) := by decide +kernel
theorem dX2_pumpGives_31 : decode cX2_pumpGives 31 = .ok (.iinc 4 1, 3) := by decide +kernel
theorem dX2_pumpGives_34 : decode cX2_pumpGives 34 = .ok (.goto (-23), 3) := by decide +kernel
theorem dX2_pumpGives_37 : decode cX2_pumpGives 37 = .ok (.iload_n 3, 1) := by decide +kernel
theorem dX2_pumpGives_38 : decode cX2_pumpGives 38 = .ok (.ireturn, 1) := by decide +kernel
theorem dX2_highestInWind_0 : decode cX2_highestInWind 0 = .ok (.aload_n 0, 1) := by decide +kernel
theorem dX2_highestInWind_1 : decode cX2_highestInWind 1 = .ok (.getfield 27, 3) := by decide +kernel
theorem dX2_highestInWind_4 : decode cX2_highestInWind 4 = .ok (.iconst 0, 1) := by decide +kernel
theorem dX2_highestInWind_5 : decode cX2_highestInWind 5 = .ok (.iaload, 1) := by decide +kernel
theorem dX2_highestInWind_6 : decode cX2_highestInWind 6 = .ok (.istore_n 1, 1) := by decide +kernel
theorem dX2_highestInWind_7 : decode cX2_highestInWind 7 = .ok (.aload_n 0, 1) := by decide +kernel
theorem dX2_highestInWind_8 : decode cX2_highestInWind 8 = .ok (.getfield 34, 3) := by decide +kernel
theorem dX2_highestInWind_11 : decode cX2_highestInWind 11 = .ok (.iload_n 1, 1) := by decide +kernel
theorem dX2_highestInWind_12 : decode cX2_highestInWind 12 = .ok (.if_icmp .le 19, 3) := by decide +kernel
theorem dX2_highestInWind_15 : decode cX2_highestInWind 15 = .ok (.iconst 0, 1) := by decide +kernel
theorem dX2_highestInWind_16 : decode cX2_highestInWind 16 = .ok (.bipush 10, 2) := by decide +kernel
theorem dX2_highestInWind_18 : decode cX2_highestInWind 18 = .ok (.iload_n 1, 1) := by decide +kernel
theorem dX2_highestInWind_19 : decode cX2_highestInWind 19 = .ok (.iadd, 1) := by decide +kernel
theorem dX2_highestInWind_20 : decode cX2_highestInWind 20 = .ok (.aload_n 0, 1) := by decide +kernel
theorem dX2_highestInWind_21 : decode cX2_highestInWind 21 = .ok (.getfield 34, 3) := by decide +kernel
theorem dX2_highestInWind_24 : decode cX2_highestInWind 24 = .ok (.isub, 1) := by decide +kernel
theorem dX2_highestInWind_25 : decode cX2_highestInWind 25 = .ok (.invokestatic 44, 3) := by decide +kernel
theorem dX2_highestInWind_28 : decode cX2_highestInWind 28 = .ok (.goto 5, 3) := by decide +kernel
theorem dX2_highestInWind_31 : decode cX2_highestInWind 31 = .ok (.bipush 10, 2) := by decide +kernel
theorem dX2_highestInWind_33 : decode cX2_highestInWind 33 = .ok (.ireturn, 1) := by decide +kernel
set_option maxRecDepth 20000 in
theorem ggX2_heightWith_X5_quotient : GoodIn wsX2_heightWith wsX5_quotient := goodIn_r _ [4] (by decide +kernel) (by decide +kernel)
set_option maxRecDepth 20000 in
theorem gX2_heightWith_X5_quotient_n57 : GoodIn wsX2_heightWith (wsX5_quotient) := ggX2_heightWith_X5_quotient
theorem dX2_heightWith_0 : decode cX2_heightWith 0 = .ok (.iload_n 2, 1) := by decide +kernel
theorem dX2_heightWith_1 : decode cX2_heightWith 1 = .ok (.aload_n 0, 1) := by decide +kernel
theorem dX2_heightWith_2 : decode cX2_heightWith 2 = .ok (.getfield 9, 3) := by decide +kernel
theorem dX2_heightWith_5 : decode cX2_heightWith 5 = .ok (.iload_n 1, 1) := by decide +kernel
theorem dX2_heightWith_6 : decode cX2_heightWith 6 = .ok (.iaload, 1) := by decide +kernel
theorem dX2_heightWith_7 : decode cX2_heightWith 7 = .ok (.invokestatic 57, 3) := by decide +kernel
theorem dX2_heightWith_10 : decode cX2_heightWith 10 = .ok (.ireturn, 1) := by decide +kernel
set_option maxRecDepth 20000 in
theorem ggX2_lampsThatBurn_X2_gets : GoodIn wsX2_lampsThatBurn wsX2_gets := goodIn_r _ [5, 6, 7, 8, 4, 9, 10, 11, 12, 13, 14, 15, 16, 17, 18, 19, 20, 21, 22, 23, 24, 25, 26, 27, 28, 29, 30, 31, 32, 33, 34, 35, 36, 41, 42, 43, 44, 45, 46, 47] (by decide +kernel) (by decide +kernel)
set_option maxRecDepth 20000 in
theorem gX2_lampsThatBurn_X2_gets : GoodIn wsX2_lampsThatBurn (wsV RX2 64 RX2 yX2_gets wsX2_gets) := goodIn_app (goodIn_of _ (by decide +kernel)) ggX2_lampsThatBurn_X2_gets
set_option maxRecDepth 20000 in
theorem ggX2_lampsThatBurn_X2_heightWith : GoodIn wsX2_lampsThatBurn wsX2_heightWith := goodIn_r _ [40, 14, 25, 26, 27, 41, 42, 43, 44, 45, 46, 47] (by decide +kernel) (by decide +kernel)
set_option maxRecDepth 20000 in
theorem gX2_lampsThatBurn_X2_heightWith : GoodIn wsX2_lampsThatBurn (wsV RX2 67 RX2 yX2_heightWith wsX2_heightWith) := goodIn_app (goodIn_of _ (by decide +kernel)) ggX2_lampsThatBurn_X2_heightWith
theorem dX2_lampsThatBurn_0 : decode cX2_lampsThatBurn 0 = .ok (.iconst 0, 1) := by decide +kernel
theorem dX2_lampsThatBurn_1 : decode cX2_lampsThatBurn 1 = .ok (.istore_n 1, 1) := by decide +kernel
theorem dX2_lampsThatBurn_2 : decode cX2_lampsThatBurn 2 = .ok (.iconst 0, 1) := by decide +kernel
theorem dX2_lampsThatBurn_3 : decode cX2_lampsThatBurn 3 = .ok (.istore_n 2, 1) := by decide +kernel
theorem dX2_lampsThatBurn_4 : decode cX2_lampsThatBurn 4 = .ok (.iload_n 2, 1) := by decide +kernel
theorem dX2_lampsThatBurn_5 : decode cX2_lampsThatBurn 5 = .ok (.bipush 8, 2) := by decide +kernel
theorem dX2_lampsThatBurn_7 : decode cX2_lampsThatBurn 7 = .ok (.if_icmp .ge 25, 3) := by decide +kernel
theorem dX2_lampsThatBurn_10 : decode cX2_lampsThatBurn 10 = .ok (.aload_n 0, 1) := by decide +kernel
theorem dX2_lampsThatBurn_11 : decode cX2_lampsThatBurn 11 = .ok (.iload_n 2, 1) := by decide +kernel
theorem dX2_lampsThatBurn_12 : decode cX2_lampsThatBurn 12 = .ok (.aload_n 0, 1) := by decide +kernel
theorem dX2_lampsThatBurn_13 : decode cX2_lampsThatBurn 13 = .ok (.iload_n 2, 1) := by decide +kernel
theorem dX2_lampsThatBurn_14 : decode cX2_lampsThatBurn 14 = .ok (.invokevirtual 64, 3) := by decide +kernel
theorem dX2_lampsThatBurn_17 : decode cX2_lampsThatBurn 17 = .ok (.invokevirtual 67, 3) := by decide +kernel
theorem dX2_lampsThatBurn_20 : decode cX2_lampsThatBurn 20 = .ok (.ifCond .le 6, 3) := by decide +kernel
theorem dX2_lampsThatBurn_23 : decode cX2_lampsThatBurn 23 = .ok (.iinc 1 1, 3) := by decide +kernel
theorem dX2_lampsThatBurn_26 : decode cX2_lampsThatBurn 26 = .ok (.iinc 2 1, 3) := by decide +kernel
theorem dX2_lampsThatBurn_29 : decode cX2_lampsThatBurn 29 = .ok (.goto (-25), 3) := by decide +kernel
theorem dX2_lampsThatBurn_32 : decode cX2_lampsThatBurn 32 = .ok (.iload_n 1, 1) := by decide +kernel
theorem dX2_lampsThatBurn_33 : decode cX2_lampsThatBurn 33 = .ok (.ireturn, 1) := by decide +kernel
theorem dX2_lossOf_0 : decode cX2_lossOf 0 = .ok (.iload_n 1, 1) := by decide +kernel
theorem dX2_lossOf_1 : decode cX2_lossOf 1 = .ok (.aload_n 0, 1) := by decide +kernel
theorem dX2_lossOf_2 : decode cX2_lossOf 2 = .ok (.getfield 27, 3) := by decide +kernel
theorem dX2_lossOf_5 : decode cX2_lossOf 5 = .ok (.iconst 1, 1) := by decide +kernel
theorem dX2_lossOf_6 : decode cX2_lossOf 6 = .ok (.iaload, 1) := by decide +kernel
theorem dX2_lossOf_7 : decode cX2_lossOf 7 = .ok (.imul, 1) := by decide +kernel
theorem dX2_lossOf_8 : decode cX2_lossOf 8 = .ok (.bipush 100, 2) := by decide +kernel
theorem dX2_lossOf_10 : decode cX2_lossOf 10 = .ok (.idiv, 1) := by decide +kernel
theorem dX2_lossOf_11 : decode cX2_lossOf 11 = .ok (.iload_n 1, 1) := by decide +kernel
theorem dX2_lossOf_12 : decode cX2_lossOf 12 = .ok (.aload_n 0, 1) := by decide +kernel
theorem dX2_lossOf_13 : decode cX2_lossOf 13 = .ok (.getfield 34, 3) := by decide +kernel
theorem dX2_lossOf_16 : decode cX2_lossOf 16 = .ok (.imul, 1) := by decide +kernel
theorem dX2_lossOf_17 : decode cX2_lossOf 17 = .ok (.bipush 100, 2) := by decide +kernel
theorem dX2_lossOf_19 : decode cX2_lossOf 19 = .ok (.idiv, 1) := by decide +kernel
theorem dX2_lossOf_20 : decode cX2_lossOf 20 = .ok (.iadd, 1) := by decide +kernel
theorem dX2_lossOf_21 : decode cX2_lossOf 21 = .ok (.ireturn, 1) := by decide +kernel
set_option maxRecDepth 20000 in
theorem ggX3_init_X4_init : GoodIn wsX3_init wsX4_init := goodIn_r _ [9, 10, 2, 3, 11, 12, 13, 14, 15, 16, 17, 18, 19, 20, 21, 22, 23, 24, 25, 26, 27, 28, 29, 30, 31, 32, 33, 34, 35, 36, 37, 38, 39, 52, 53, 54, 55, 56, 57, 58, 42, 43, 44, 45, 46, 47, 48, 49, 50, 51, 59, 60, 61, 62, 63, 64] (by decide +kernel) (by decide +kernel)
set_option maxRecDepth 20000 in
theorem gX3_init_X4_init_n17 : GoodIn wsX3_init (wsX4_init) := ggX3_init_X4_init
theorem dX3_init_0 : decode cX3_init 0 = .ok (.aload_n 0, 1) := by decide +kernel
theorem dX3_init_1 : decode cX3_init 1 = .ok (.invokespecial 3, 3) := by decide +kernel
theorem dX3_init_4 : decode cX3_init 4 = .ok (.aload_n 0, 1) := by decide +kernel
theorem dX3_init_5 : decode cX3_init 5 = .ok (.bipush 6, 2) := by decide +kernel
theorem dX3_init_7 : decode cX3_init 7 = .ok (.anewarray 9, 3) := by decide +kernel
theorem dX3_init_10 : decode cX3_init 10 = .ok (.putfield 11, 3) := by decide +kernel
theorem dX3_init_13 : decode cX3_init 13 = .ok (.iconst 0, 1) := by decide +kernel
theorem dX3_init_14 : decode cX3_init 14 = .ok (.istore_n 1, 1) := by decide +kernel
theorem dX3_init_15 : decode cX3_init 15 = .ok (.iload_n 1, 1) := by decide +kernel
theorem dX3_init_16 : decode cX3_init 16 = .ok (.bipush 6, 2) := by decide +kernel
theorem dX3_init_18 : decode cX3_init 18 = .ok (.if_icmp .ge 22, 3) := by decide +kernel
theorem dX3_init_21 : decode cX3_init 21 = .ok (.aload_n 0, 1) := by decide +kernel
theorem dX3_init_22 : decode cX3_init 22 = .ok (.getfield 11, 3) := by decide +kernel
theorem dX3_init_25 : decode cX3_init 25 = .ok (.iload_n 1, 1) := by decide +kernel
theorem dX3_init_26 : decode cX3_init 26 = .ok (.new 9, 3) := by decide +kernel
theorem dX3_init_29 : decode cX3_init 29 = .ok (.dup, 1) := by decide +kernel
theorem dX3_init_30 : decode cX3_init 30 = .ok (.invokespecial 17, 3) := by decide +kernel
theorem dX3_init_33 : decode cX3_init 33 = .ok (.aastore, 1) := by decide +kernel
theorem dX3_init_34 : decode cX3_init 34 = .ok (.iinc 1 1, 3) := by decide +kernel
theorem dX3_init_37 : decode cX3_init 37 = .ok (.goto (-22), 3) := by decide +kernel
theorem dX3_init_40 : decode cX3_init 40 = .ok (.return_, 1) := by decide +kernel
set_option maxRecDepth 20000 in
theorem ggX3_keep_X3_dropOldest : GoodIn wsX3_keep wsX3_dropOldest := goodIn_r _ [7, 2, 1, 48, 49] (by decide +kernel) (by decide +kernel)
set_option maxRecDepth 20000 in
theorem gX3_keep_X3_dropOldest : GoodIn wsX3_keep (wsV RX3 22 RX3 yX3_dropOldest wsX3_dropOldest) := goodIn_app (goodIn_of _ (by decide +kernel)) ggX3_keep_X3_dropOldest
set_option maxRecDepth 20000 in
theorem ggX3_keep_X4_copyFrom : GoodIn wsX3_keep wsX4_copyFrom := goodIn_r _ [12, 13, 14, 15, 16, 17, 18, 19, 20, 21, 22, 23, 24, 25, 26, 27, 28, 29, 30, 31, 32, 33, 34, 35, 36, 37, 38, 39, 40, 41, 42, 43, 44, 45, 46, 47, 50, 51, 52, 53, 54, 55, 56, 57, 58, 59, 60, 61, 62, 63, 64, 65, 66, 67, 68, 69, 70, 71, 72] (by decide +kernel) (by decide +kernel)
set_option maxRecDepth 20000 in
theorem gX3_keep_X4_copyFrom : GoodIn wsX3_keep (wsV RX3 25 RX4 yX4_copyFrom wsX4_copyFrom) := goodIn_app (goodIn_of _ (by decide +kernel)) ggX3_keep_X4_copyFrom
theorem dX3_keep_0 : decode cX3_keep 0 = .ok (.aload_n 0, 1) := by decide +kernel
theorem dX3_keep_1 : decode cX3_keep 1 = .ok (.getfield 18, 3) := by decide +kernel
theorem dX3_keep_4 : decode cX3_keep 4 = .ok (.bipush 6, 2) := by decide +kernel
theorem dX3_keep_6 : decode cX3_keep 6 = .ok (.if_icmp .lt 7, 3) := by decide +kernel
theorem dX3_keep_9 : decode cX3_keep 9 = .ok (.aload_n 0, 1) := by decide +kernel
theorem dX3_keep_10 : decode cX3_keep 10 = .ok (.invokevirtual 22, 3) := by decide +kernel
theorem dX3_keep_13 : decode cX3_keep 13 = .ok (.aload_n 0, 1) := by decide +kernel
theorem dX3_keep_14 : decode cX3_keep 14 = .ok (.getfield 11, 3) := by decide +kernel
theorem dX3_keep_17 : decode cX3_keep 17 = .ok (.aload_n 0, 1) := by decide +kernel
theorem dX3_keep_18 : decode cX3_keep 18 = .ok (.getfield 18, 3) := by decide +kernel
theorem dX3_keep_21 : decode cX3_keep 21 = .ok (.aaload, 1) := by decide +kernel
theorem dX3_keep_22 : decode cX3_keep 22 = .ok (.astore_n 2, 1) := by decide +kernel
theorem dX3_keep_23 : decode cX3_keep 23 = .ok (.aload_n 2, 1) := by decide +kernel
theorem dX3_keep_24 : decode cX3_keep 24 = .ok (.ifnull 18, 3) := by decide +kernel
theorem dX3_keep_27 : decode cX3_keep 27 = .ok (.aload_n 2, 1) := by decide +kernel
theorem dX3_keep_28 : decode cX3_keep 28 = .ok (.aload_n 1, 1) := by decide +kernel
theorem dX3_keep_29 : decode cX3_keep 29 = .ok (.invokevirtual 25, 3) := by decide +kernel
theorem dX3_keep_32 : decode cX3_keep 32 = .ok (.aload_n 0, 1) := by decide +kernel
theorem dX3_keep_33 : decode cX3_keep 33 = .ok (.dup, 1) := by decide +kernel
theorem dX3_keep_34 : decode cX3_keep 34 = .ok (.getfield 18, 3) := by decide +kernel
theorem dX3_keep_37 : decode cX3_keep 37 = .ok (.iconst 1, 1) := by decide +kernel
theorem dX3_keep_38 : decode cX3_keep 38 = .ok (.iadd, 1) := by decide +kernel
theorem dX3_keep_39 : decode cX3_keep 39 = .ok (.putfield 18, 3) := by decide +kernel
theorem dX3_keep_42 : decode cX3_keep 42 = .ok (.return_, 1) := by decide +kernel
theorem dX3_dropOldest_0 : decode cX3_dropOldest 0 = .ok (.aload_n 0, 1) := by decide +kernel
theorem dX3_dropOldest_1 : decode cX3_dropOldest 1 = .ok (.getfield 11, 3) := by decide +kernel
theorem dX3_dropOldest_4 : decode cX3_dropOldest 4 = .ok (.iconst 0, 1) := by decide +kernel
theorem dX3_dropOldest_5 : decode cX3_dropOldest 5 = .ok (.aaload, 1) := by decide +kernel
theorem dX3_dropOldest_6 : decode cX3_dropOldest 6 = .ok (.astore_n 1, 1) := by decide +kernel
theorem dX3_dropOldest_7 : decode cX3_dropOldest 7 = .ok (.iconst 0, 1) := by decide +kernel
theorem dX3_dropOldest_8 : decode cX3_dropOldest 8 = .ok (.istore_n 2, 1) := by decide +kernel
theorem dX3_dropOldest_9 : decode cX3_dropOldest 9 = .ok (.iload_n 2, 1) := by decide +kernel
theorem dX3_dropOldest_10 : decode cX3_dropOldest 10 = .ok (.iconst 1, 1) := by decide +kernel
theorem dX3_dropOldest_11 : decode cX3_dropOldest 11 = .ok (.iadd, 1) := by decide +kernel
theorem dX3_dropOldest_12 : decode cX3_dropOldest 12 = .ok (.bipush 6, 2) := by decide +kernel
theorem dX3_dropOldest_14 : decode cX3_dropOldest 14 = .ok (.if_icmp .ge 23, 3) := by decide +kernel
theorem dX3_dropOldest_17 : decode cX3_dropOldest 17 = .ok (.aload_n 0, 1) := by decide +kernel
theorem dX3_dropOldest_18 : decode cX3_dropOldest 18 = .ok (.getfield 11, 3) := by decide +kernel
theorem dX3_dropOldest_21 : decode cX3_dropOldest 21 = .ok (.iload_n 2, 1) := by decide +kernel
theorem dX3_dropOldest_22 : decode cX3_dropOldest 22 = .ok (.aload_n 0, 1) := by decide +kernel
theorem dX3_dropOldest_23 : decode cX3_dropOldest 23 = .ok (.getfield 11, 3) := by decide +kernel
theorem dX3_dropOldest_26 : decode cX3_dropOldest 26 = .ok (.iload_n 2, 1) := by decide +kernel
theorem dX3_dropOldest_27 : decode cX3_dropOldest 27 = .ok (.iconst 1, 1) := by decide +kernel
theorem dX3_dropOldest_28 : decode cX3_dropOldest 28 = .ok (.iadd, 1) := by decide +kernel
theorem dX3_dropOldest_29 : decode cX3_dropOldest 29 = .ok (.aaload, 1) := by decide +kernel
theorem dX3_dropOldest_30 : decode cX3_dropOldest 30 = .ok (.aastore, 1) := by decide +kernel
theorem dX3_dropOldest_31 : decode cX3_dropOldest 31 = .ok (.iinc 2 1, 3) := by decide +kernel
theorem dX3_dropOldest_34 : decode cX3_dropOldest 34 = .ok (.goto (-25), 3) := by decide +kernel
theorem dX3_dropOldest_37 : decode cX3_dropOldest 37 = .ok (.aload_n 0, 1) := by decide +kernel
theorem dX3_dropOldest_38 : decode cX3_dropOldest 38 = .ok (.getfield 11, 3) := by decide +kernel
theorem dX3_dropOldest_41 : decode cX3_dropOldest 41 = .ok (.iconst 5, 1) := by decide +kernel
theorem dX3_dropOldest_42 : decode cX3_dropOldest 42 = .ok (.aload_n 1, 1) := by decide +kernel
theorem dX3_dropOldest_43 : decode cX3_dropOldest 43 = .ok (.aastore, 1) := by decide +kernel
theorem dX3_dropOldest_44 : decode cX3_dropOldest 44 = .ok (.aload_n 0, 1) := by decide +kernel
theorem dX3_dropOldest_45 : decode cX3_dropOldest 45 = .ok (.iconst 5, 1) := by decide +kernel
theorem dX3_dropOldest_46 : decode cX3_dropOldest 46 = .ok (.putfield 18, 3) := by decide +kernel
theorem dX3_dropOldest_49 : decode cX3_dropOldest 49 = .ok (.return_, 1) := by decide +kernel
set_option maxRecDepth 20000 in
theorem ggX3_restore_X4_copyFrom : GoodIn wsX3_restore wsX4_copyFrom := goodIn_r _ [7, 8, 9, 10, 11, 12, 13, 14, 15, 16, 17, 18, 19, 20, 21, 22, 23, 24, 25, 26, 27, 28, 29, 30, 31, 32, 33, 34, 35, 36, 37, 38, 39, 40, 41, 42, 45, 46, 47, 48, 49, 50, 51, 52, 53, 54, 55, 56, 57, 58, 59, 60, 61, 62, 63, 64, 65, 66, 67] (by decide +kernel) (by decide +kernel)
set_option maxRecDepth 20000 in
theorem gX3_restore_X4_copyFrom : GoodIn wsX3_restore (wsV RX3 25 RX4 yX4_copyFrom wsX4_copyFrom) := goodIn_app (goodIn_of _ (by decide +kernel)) ggX3_restore_X4_copyFrom
theorem dX3_restore_0 : decode cX3_restore 0 = .ok (.aload_n 0, 1) := by decide +kernel
theorem dX3_restore_1 : decode cX3_restore 1 = .ok (.getfield 18, 3) := by decide +kernel
theorem dX3_restore_4 : decode cX3_restore 4 = .ok (.ifCond .gt 4, 3) := by decide +kernel
theorem dX3_restore_7 : decode cX3_restore 7 = .ok (.return_, 1) := by decide +kernel
theorem dX3_restore_8 : decode cX3_restore 8 = .ok (.aload_n 0, 1) := by decide +kernel
theorem dX3_restore_9 : decode cX3_restore 9 = .ok (.dup, 1) := by decide +kernel
theorem dX3_restore_10 : decode cX3_restore 10 = .ok (.getfield 18, 3) := by decide +kernel
theorem dX3_restore_13 : decode cX3_restore 13 = .ok (.iconst 1, 1) := by decide +kernel
theorem dX3_restore_14 : decode cX3_restore 14 = .ok (.isub, 1) := by decide +kernel
theorem dX3_restore_15 : decode cX3_restore 15 = .ok (.putfield 18, 3) := by decide +kernel
theorem dX3_restore_18 : decode cX3_restore 18 = .ok (.aload_n 0, 1) := by decide +kernel
theorem dX3_restore_19 : decode cX3_restore 19 = .ok (.getfield 11, 3) := by decide +kernel
theorem dX3_restore_22 : decode cX3_restore 22 = .ok (.aload_n 0, 1) := by decide +kernel
theorem dX3_restore_23 : decode cX3_restore 23 = .ok (.getfield 18, 3) := by decide +kernel
theorem dX3_restore_26 : decode cX3_restore 26 = .ok (.aaload, 1) := by decide +kernel
theorem dX3_restore_27 : decode cX3_restore 27 = .ok (.astore_n 2, 1) := by decide +kernel
theorem dX3_restore_28 : decode cX3_restore 28 = .ok (.aload_n 2, 1) := by decide +kernel
theorem dX3_restore_29 : decode cX3_restore 29 = .ok (.ifnull 8, 3) := by decide +kernel
theorem dX3_restore_32 : decode cX3_restore 32 = .ok (.aload_n 1, 1) := by decide +kernel
theorem dX3_restore_33 : decode cX3_restore 33 = .ok (.aload_n 2, 1) := by decide +kernel
theorem dX3_restore_34 : decode cX3_restore 34 = .ok (.invokevirtual 25, 3) := by decide +kernel
theorem dX3_restore_37 : decode cX3_restore 37 = .ok (.return_, 1) := by decide +kernel
set_option maxRecDepth 20000 in
theorem ggX4_init_X2_init : GoodIn wsX4_init wsX2_init := goodIn_r _ [18, 19, 2, 3, 12, 20, 21, 22, 23, 24, 25, 33, 34, 35, 36, 37, 38, 39] (by decide +kernel) (by decide +kernel)
set_option maxRecDepth 20000 in
theorem gX4_init_X2_init : GoodIn wsX4_init (wsX2_init) := ggX4_init_X2_init
set_option maxRecDepth 20000 in
theorem ggX4_init_X1_init : GoodIn wsX4_init wsX1_init := goodIn_r _ [27, 28, 2, 3, 12, 29, 30, 31, 32, 50, 51, 52, 53, 54, 55] (by decide +kernel) (by decide +kernel)
set_option maxRecDepth 20000 in
theorem gX4_init_X1_init_n20 : GoodIn wsX4_init (wsX1_init) := ggX4_init_X1_init
theorem dX4_init_0 : decode cX4_init 0 = .ok (.aload_n 0, 1) := by decide +kernel
theorem dX4_init_1 : decode cX4_init 1 = .ok (.invokespecial 3, 3) := by decide +kernel
theorem dX4_init_4 : decode cX4_init 4 = .ok (.aload_n 0, 1) := by decide +kernel
theorem dX4_init_5 : decode cX4_init 5 = .ok (.new 9, 3) := by decide +kernel
theorem dX4_init_8 : decode cX4_init 8 = .ok (.dup, 1) := by decide +kernel
theorem dX4_init_9 : decode cX4_init 9 = .ok (.invokespecial 11, 3) := by decide +kernel
theorem dX4_init_12 : decode cX4_init 12 = .ok (.putfield 12, 3) := by decide +kernel
theorem dX4_init_15 : decode cX4_init 15 = .ok (.aload_n 0, 1) := by decide +kernel
theorem dX4_init_16 : decode cX4_init 16 = .ok (.new 18, 3) := by decide +kernel
theorem dX4_init_19 : decode cX4_init 19 = .ok (.dup, 1) := by decide +kernel
theorem dX4_init_20 : decode cX4_init 20 = .ok (.invokespecial 20, 3) := by decide +kernel
theorem dX4_init_23 : decode cX4_init 23 = .ok (.putfield 21, 3) := by decide +kernel
theorem dX4_init_26 : decode cX4_init 26 = .ok (.aload_n 0, 1) := by decide +kernel
theorem dX4_init_27 : decode cX4_init 27 = .ok (.bipush 8, 2) := by decide +kernel
theorem dX4_init_29 : decode cX4_init 29 = .ok (.newarray .int, 2) := by decide +kernel
theorem dX4_init_31 : decode cX4_init 31 = .ok (.putfield 25, 3) := by decide +kernel
theorem dX4_init_34 : decode cX4_init 34 = .ok (.aload_n 0, 1) := by decide +kernel
theorem dX4_init_35 : decode cX4_init 35 = .ok (.bipush 8, 2) := by decide +kernel
theorem dX4_init_37 : decode cX4_init 37 = .ok (.newarray .int, 2) := by decide +kernel
theorem dX4_init_39 : decode cX4_init 39 = .ok (.putfield 29, 3) := by decide +kernel
theorem dX4_init_42 : decode cX4_init 42 = .ok (.aload_n 0, 1) := by decide +kernel
theorem dX4_init_43 : decode cX4_init 43 = .ok (.sipush 5000, 3) := by decide +kernel
theorem dX4_init_46 : decode cX4_init 46 = .ok (.putfield 32, 3) := by decide +kernel
theorem dX4_init_49 : decode cX4_init 49 = .ok (.return_, 1) := by decide +kernel
set_option maxRecDepth 20000 in
theorem ggX4_copyFrom_X2_copyFrom : GoodIn wsX4_copyFrom wsX2_copyFrom := goodIn_r _ [14, 15, 16, 17, 18, 19, 20, 21, 22, 23, 24, 46, 47, 48, 49, 50, 51, 52] (by decide +kernel) (by decide +kernel)
set_option maxRecDepth 20000 in
theorem gX4_copyFrom_X2_copyFrom : GoodIn wsX4_copyFrom (wsV RX4 36 RX2 yX2_copyFrom wsX2_copyFrom) := goodIn_app (goodIn_of _ (by decide +kernel)) ggX4_copyFrom_X2_copyFrom
set_option maxRecDepth 20000 in
theorem ggX4_copyFrom_X1_copyFrom : GoodIn wsX4_copyFrom wsX1_copyFrom := goodIn_r _ [29, 30, 31, 32, 33, 34, 35, 22, 23, 24, 53, 54, 55, 56, 57, 58] (by decide +kernel) (by decide +kernel)
set_option maxRecDepth 20000 in
theorem gX4_copyFrom_X1_copyFrom : GoodIn wsX4_copyFrom (wsV RX4 40 RX1 yX1_copyFrom wsX1_copyFrom) := goodIn_app (goodIn_of _ (by decide +kernel)) ggX4_copyFrom_X1_copyFrom
set_option maxRecDepth 20000 in
theorem ggX4_copyFrom_X5_copyRow : GoodIn wsX4_copyFrom wsX5_copyRow := goodIn_r _ [24] (by decide +kernel) (by decide +kernel)
set_option maxRecDepth 20000 in
theorem gX4_copyFrom_X5_copyRow_n43 : GoodIn wsX4_copyFrom (wsX5_copyRow) := ggX4_copyFrom_X5_copyRow
theorem dX4_copyFrom_0 : decode cX4_copyFrom 0 = .ok (.aload_n 0, 1) := by decide +kernel
theorem dX4_copyFrom_1 : decode cX4_copyFrom 1 = .ok (.getfield 12, 3) := by decide +kernel
theorem dX4_copyFrom_4 : decode cX4_copyFrom 4 = .ok (.aload_n 1, 1) := by decide +kernel
theorem dX4_copyFrom_5 : decode cX4_copyFrom 5 = .ok (.getfield 12, 3) := by decide +kernel
theorem dX4_copyFrom_8 : decode cX4_copyFrom 8 = .ok (.invokevirtual 36, 3) := by decide +kernel
theorem dX4_copyFrom_11 : decode cX4_copyFrom 11 = .ok (.aload_n 0, 1) := by decide +kernel
theorem dX4_copyFrom_12 : decode cX4_copyFrom 12 = .ok (.getfield 21, 3) := by decide +kernel
theorem dX4_copyFrom_15 : decode cX4_copyFrom 15 = .ok (.aload_n 1, 1) := by decide +kernel
theorem dX4_copyFrom_16 : decode cX4_copyFrom 16 = .ok (.getfield 21, 3) := by decide +kernel
theorem dX4_copyFrom_19 : decode cX4_copyFrom 19 = .ok (.invokevirtual 40, 3) := by decide +kernel
theorem dX4_copyFrom_22 : decode cX4_copyFrom 22 = .ok (.aload_n 1, 1) := by decide +kernel
theorem dX4_copyFrom_23 : decode cX4_copyFrom 23 = .ok (.getfield 25, 3) := by decide +kernel
theorem dX4_copyFrom_26 : decode cX4_copyFrom 26 = .ok (.aload_n 0, 1) := by decide +kernel
theorem dX4_copyFrom_27 : decode cX4_copyFrom 27 = .ok (.getfield 25, 3) := by decide +kernel
theorem dX4_copyFrom_30 : decode cX4_copyFrom 30 = .ok (.invokestatic 43, 3) := by decide +kernel
theorem dX4_copyFrom_33 : decode cX4_copyFrom 33 = .ok (.aload_n 0, 1) := by decide +kernel
theorem dX4_copyFrom_34 : decode cX4_copyFrom 34 = .ok (.aload_n 1, 1) := by decide +kernel
theorem dX4_copyFrom_35 : decode cX4_copyFrom 35 = .ok (.getfield 32, 3) := by decide +kernel
theorem dX4_copyFrom_38 : decode cX4_copyFrom 38 = .ok (.putfield 32, 3) := by decide +kernel
theorem dX4_copyFrom_41 : decode cX4_copyFrom 41 = .ok (.aload_n 0, 1) := by decide +kernel
theorem dX4_copyFrom_42 : decode cX4_copyFrom 42 = .ok (.aload_n 1, 1) := by decide +kernel
theorem dX4_copyFrom_43 : decode cX4_copyFrom 43 = .ok (.getfield 47, 3) := by decide +kernel
theorem dX4_copyFrom_46 : decode cX4_copyFrom 46 = .ok (.putfield 47, 3) := by decide +kernel
theorem dX4_copyFrom_49 : decode cX4_copyFrom 49 = .ok (.aload_n 0, 1) := by decide +kernel
theorem dX4_copyFrom_50 : decode cX4_copyFrom 50 = .ok (.aload_n 1, 1) := by decide +kernel
theorem dX4_copyFrom_51 : decode cX4_copyFrom 51 = .ok (.getfield 50, 3) := by decide +kernel
theorem dX4_copyFrom_54 : decode cX4_copyFrom 54 = .ok (.putfield 50, 3) := by decide +kernel
theorem dX4_copyFrom_57 : decode cX4_copyFrom 57 = .ok (.aload_n 0, 1) := by decide +kernel
theorem dX4_copyFrom_58 : decode cX4_copyFrom 58 = .ok (.aload_n 1, 1) := by decide +kernel
theorem dX4_copyFrom_59 : decode cX4_copyFrom 59 = .ok (.getfield 53, 3) := by decide +kernel
theorem dX4_copyFrom_62 : decode cX4_copyFrom 62 = .ok (.putfield 53, 3) := by decide +kernel
theorem dX4_copyFrom_65 : decode cX4_copyFrom 65 = .ok (.aload_n 0, 1) := by decide +kernel
theorem dX4_copyFrom_66 : decode cX4_copyFrom 66 = .ok (.aload_n 1, 1) := by decide +kernel
theorem dX4_copyFrom_67 : decode cX4_copyFrom 67 = .ok (.getfield 56, 3) := by decide +kernel
theorem dX4_copyFrom_70 : decode cX4_copyFrom 70 = .ok (.putfield 56, 3) := by decide +kernel
theorem dX4_copyFrom_73 : decode cX4_copyFrom 73 = .ok (.aload_n 0, 1) := by decide +kernel
theorem dX4_copyFrom_74 : decode cX4_copyFrom 74 = .ok (.aload_n 1, 1) := by decide +kernel
theorem dX4_copyFrom_75 : decode cX4_copyFrom 75 = .ok (.getfield 59, 3) := by decide +kernel
theorem dX4_copyFrom_78 : decode cX4_copyFrom 78 = .ok (.putfield 59, 3) := by decide +kernel
theorem dX4_copyFrom_81 : decode cX4_copyFrom 81 = .ok (.return_, 1) := by decide +kernel
theorem dX4_countAnew_0 : decode cX4_countAnew 0 = .ok (.aload_n 0, 1) := by decide +kernel
theorem dX4_countAnew_1 : decode cX4_countAnew 1 = .ok (.iconst 0, 1) := by decide +kernel
theorem dX4_countAnew_2 : decode cX4_countAnew 2 = .ok (.putfield 50, 3) := by decide +kernel
theorem dX4_countAnew_5 : decode cX4_countAnew 5 = .ok (.aload_n 0, 1) := by decide +kernel
theorem dX4_countAnew_6 : decode cX4_countAnew 6 = .ok (.iconst 0, 1) := by decide +kernel
theorem dX4_countAnew_7 : decode cX4_countAnew 7 = .ok (.putfield 53, 3) := by decide +kernel
theorem dX4_countAnew_10 : decode cX4_countAnew 10 = .ok (.aload_n 0, 1) := by decide +kernel
theorem dX4_countAnew_11 : decode cX4_countAnew 11 = .ok (.iconst 0, 1) := by decide +kernel
theorem dX4_countAnew_12 : decode cX4_countAnew 12 = .ok (.putfield 59, 3) := by decide +kernel
theorem dX4_countAnew_15 : decode cX4_countAnew 15 = .ok (.iconst 0, 1) := by decide +kernel
theorem dX4_countAnew_16 : decode cX4_countAnew 16 = .ok (.istore_n 1, 1) := by decide +kernel
theorem dX4_countAnew_17 : decode cX4_countAnew 17 = .ok (.iload_n 1, 1) := by decide +kernel
theorem dX4_countAnew_18 : decode cX4_countAnew 18 = .ok (.bipush 8, 2) := by decide +kernel
theorem dX4_countAnew_20 : decode cX4_countAnew 20 = .ok (.if_icmp .ge 16, 3) := by decide +kernel
theorem dX4_countAnew_23 : decode cX4_countAnew 23 = .ok (.aload_n 0, 1) := by decide +kernel
theorem dX4_countAnew_24 : decode cX4_countAnew 24 = .ok (.getfield 25, 3) := by decide +kernel
theorem dX4_countAnew_27 : decode cX4_countAnew 27 = .ok (.iload_n 1, 1) := by decide +kernel
theorem dX4_countAnew_28 : decode cX4_countAnew 28 = .ok (.iconst 0, 1) := by decide +kernel
theorem dX4_countAnew_29 : decode cX4_countAnew 29 = .ok (.iastore, 1) := by decide +kernel
theorem dX4_countAnew_30 : decode cX4_countAnew 30 = .ok (.iinc 1 1, 3) := by decide +kernel
theorem dX4_countAnew_33 : decode cX4_countAnew 33 = .ok (.goto (-16), 3) := by decide +kernel
theorem dX4_countAnew_36 : decode cX4_countAnew 36 = .ok (.return_, 1) := by decide +kernel
set_option maxRecDepth 20000 in
theorem ggX4_playTicks_X4_doCues : GoodIn wsX4_playTicks wsX4_doCues := goodIn_r _ [7, 8, 9, 10, 2, 11, 1, 12, 13, 14, 15, 16, 17, 18, 19, 20, 21, 22, 23, 24, 25, 26, 27, 28, 89, 90, 91, 92, 93, 94, 95, 96, 97, 98, 99, 100, 101, 102, 103, 104, 105, 106, 107, 108, 109, 110, 111] (by decide +kernel) (by decide +kernel)
set_option maxRecDepth 20000 in
theorem gX4_playTicks_X4_doCues : GoodIn wsX4_playTicks (wsV RX4 62 RX4 yX4_doCues wsX4_doCues) := goodIn_app (goodIn_of _ (by decide +kernel)) ggX4_playTicks_X4_doCues
set_option maxRecDepth 20000 in
theorem ggX4_playTicks_X2_moveValves : GoodIn wsX4_playTicks wsX2_moveValves := goodIn_r _ [33, 34, 35, 36, 37, 38, 39, 40, 41, 42, 43, 105, 106, 107, 108, 109, 110, 111] (by decide +kernel) (by decide +kernel)
set_option maxRecDepth 20000 in
theorem gX4_playTicks_X2_moveValves : GoodIn wsX4_playTicks (wsV RX4 65 RX2 yX2_moveValves wsX2_moveValves) := goodIn_app (goodIn_of _ (by decide +kernel)) ggX4_playTicks_X2_moveValves
set_option maxRecDepth 20000 in
theorem ggX4_playTicks_X4_playJets : GoodIn wsX4_playTicks wsX4_playJets := goodIn_r _ [47, 48, 49, 1, 50, 51, 52, 53, 42, 39, 43, 54, 55, 56, 57, 6, 58, 59, 60, 61, 32, 62, 63, 64, 65, 66, 67, 36, 68, 69, 70, 71, 72, 37, 38, 40, 73, 74, 75, 76, 77, 78, 79, 34, 80, 41, 81, 82, 83, 84, 85, 86, 87, 88, 89, 90, 91, 92, 93, 94, 95, 96, 97, 98, 105, 106, 107, 108, 109, 110, 111] (by decide +kernel) (by decide +kernel)
set_option maxRecDepth 20000 in
theorem gX4_playTicks_X4_playJets : GoodIn wsX4_playTicks (wsV RX4 68 RX4 yX4_playJets wsX4_playJets) := goodIn_app (goodIn_of _ (by decide +kernel)) ggX4_playTicks_X4_playJets
theorem dX4_playTicks_0 : decode cX4_playTicks 0 = .ok (.iconst 0, 1) := by decide +kernel
theorem dX4_playTicks_1 : decode cX4_playTicks 1 = .ok (.istore_n 2, 1) := by decide +kernel
theorem dX4_playTicks_2 : decode cX4_playTicks 2 = .ok (.iload_n 2, 1) := by decide +kernel
theorem dX4_playTicks_3 : decode cX4_playTicks 3 = .ok (.iload_n 1, 1) := by decide +kernel
theorem dX4_playTicks_4 : decode cX4_playTicks 4 = .ok (.if_icmp .ge 34, 3) := by decide +kernel
theorem dX4_playTicks_7 : decode cX4_playTicks 7 = .ok (.aload_n 0, 1) := by decide +kernel
theorem dX4_playTicks_8 : decode cX4_playTicks 8 = .ok (.invokevirtual 62, 3) := by decide +kernel
theorem dX4_playTicks_11 : decode cX4_playTicks 11 = .ok (.aload_n 0, 1) := by decide +kernel
theorem dX4_playTicks_12 : decode cX4_playTicks 12 = .ok (.getfield 12, 3) := by decide +kernel
theorem dX4_playTicks_15 : decode cX4_playTicks 15 = .ok (.invokevirtual 65, 3) := by decide +kernel
theorem dX4_playTicks_18 : decode cX4_playTicks 18 = .ok (.aload_n 0, 1) := by decide +kernel
theorem dX4_playTicks_19 : decode cX4_playTicks 19 = .ok (.invokevirtual 68, 3) := by decide +kernel
theorem dX4_playTicks_22 : decode cX4_playTicks 22 = .ok (.aload_n 0, 1) := by decide +kernel
theorem dX4_playTicks_23 : decode cX4_playTicks 23 = .ok (.dup, 1) := by decide +kernel
theorem dX4_playTicks_24 : decode cX4_playTicks 24 = .ok (.getfield 47, 3) := by decide +kernel
theorem dX4_playTicks_27 : decode cX4_playTicks 27 = .ok (.iconst 1, 1) := by decide +kernel
theorem dX4_playTicks_28 : decode cX4_playTicks 28 = .ok (.iadd, 1) := by decide +kernel
theorem dX4_playTicks_29 : decode cX4_playTicks 29 = .ok (.putfield 47, 3) := by decide +kernel
theorem dX4_playTicks_32 : decode cX4_playTicks 32 = .ok (.iinc 2 1, 3) := by decide +kernel
theorem dX4_playTicks_35 : decode cX4_playTicks 35 = .ok (.goto (-33), 3) := by decide +kernel
theorem dX4_playTicks_38 : decode cX4_playTicks 38 = .ok (.return_, 1) := by decide +kernel
set_option maxRecDepth 20000 in
theorem ggX4_doCues_X1_removeAt : GoodIn wsX4_doCues wsX1_removeAt := goodIn_r _ [14, 15, 16, 17, 18, 13, 19, 20, 21, 22, 23, 34, 35, 36, 37, 38, 39] (by decide +kernel) (by decide +kernel)
set_option maxRecDepth 20000 in
theorem gX4_doCues_X1_removeAt : GoodIn wsX4_doCues (wsV RX4 84 RX1 yX1_removeAt wsX1_removeAt) := goodIn_app (goodIn_of _ (by decide +kernel)) ggX4_doCues_X1_removeAt
theorem dX4_doCues_0 : decode cX4_doCues 0 = .ok (.iconst 0, 1) := by decide +kernel
theorem dX4_doCues_1 : decode cX4_doCues 1 = .ok (.istore_n 1, 1) := by decide +kernel
theorem dX4_doCues_2 : decode cX4_doCues 2 = .ok (.iload_n 1, 1) := by decide +kernel
theorem dX4_doCues_3 : decode cX4_doCues 3 = .ok (.bipush 16, 2) := by decide +kernel
theorem dX4_doCues_5 : decode cX4_doCues 5 = .ok (.if_icmp .ge 91, 3) := by decide +kernel
theorem dX4_doCues_8 : decode cX4_doCues 8 = .ok (.aload_n 0, 1) := by decide +kernel
theorem dX4_doCues_9 : decode cX4_doCues 9 = .ok (.getfield 21, 3) := by decide +kernel
theorem dX4_doCues_12 : decode cX4_doCues 12 = .ok (.getfield 71, 3) := by decide +kernel
theorem dX4_doCues_15 : decode cX4_doCues 15 = .ok (.ifCond .le 81, 3) := by decide +kernel
theorem dX4_doCues_18 : decode cX4_doCues 18 = .ok (.aload_n 0, 1) := by decide +kernel
theorem dX4_doCues_19 : decode cX4_doCues 19 = .ok (.getfield 21, 3) := by decide +kernel
theorem dX4_doCues_22 : decode cX4_doCues 22 = .ok (.getfield 74, 3) := by decide +kernel
theorem dX4_doCues_25 : decode cX4_doCues 25 = .ok (.iconst 0, 1) := by decide +kernel
theorem dX4_doCues_26 : decode cX4_doCues 26 = .ok (.iaload, 1) := by decide +kernel
theorem dX4_doCues_27 : decode cX4_doCues 27 = .ok (.aload_n 0, 1) := by decide +kernel
theorem dX4_doCues_28 : decode cX4_doCues 28 = .ok (.getfield 47, 3) := by decide +kernel
theorem dX4_doCues_31 : decode cX4_doCues 31 = .ok (.if_icmp .ne 65, 3) := by decide +kernel
theorem dX4_doCues_34 : decode cX4_doCues 34 = .ok (.aload_n 0, 1) := by decide +kernel
theorem dX4_doCues_35 : decode cX4_doCues 35 = .ok (.getfield 21, 3) := by decide +kernel
theorem dX4_doCues_38 : decode cX4_doCues 38 = .ok (.getfield 77, 3) := by decide +kernel
theorem dX4_doCues_41 : decode cX4_doCues 41 = .ok (.iconst 0, 1) := by decide +kernel
theorem dX4_doCues_42 : decode cX4_doCues 42 = .ok (.iaload, 1) := by decide +kernel
theorem dX4_doCues_43 : decode cX4_doCues 43 = .ok (.istore_n 2, 1) := by decide +kernel
theorem dX4_doCues_44 : decode cX4_doCues 44 = .ok (.iload_n 2, 1) := by decide +kernel
theorem dX4_doCues_45 : decode cX4_doCues 45 = .ok (.ifCond .lt 27, 3) := by decide +kernel
theorem dX4_doCues_48 : decode cX4_doCues 48 = .ok (.iload_n 2, 1) := by decide +kernel
theorem dX4_doCues_49 : decode cX4_doCues 49 = .ok (.bipush 8, 2) := by decide +kernel
theorem dX4_doCues_51 : decode cX4_doCues 51 = .ok (.if_icmp .ge 21, 3) := by decide +kernel
theorem dX4_doCues_54 : decode cX4_doCues 54 = .ok (.aload_n 0, 1) := by decide +kernel
theorem dX4_doCues_55 : decode cX4_doCues 55 = .ok (.getfield 12, 3) := by decide +kernel
theorem dX4_doCues_58 : decode cX4_doCues 58 = .ok (.getfield 80, 3) := by decide +kernel
theorem dX4_doCues_61 : decode cX4_doCues 61 = .ok (.iload_n 2, 1) := by decide +kernel
theorem dX4_doCues_62 : decode cX4_doCues 62 = .ok (.aload_n 0, 1) := by decide +kernel
theorem dX4_doCues_63 : decode cX4_doCues 63 = .ok (.getfield 21, 3) := by decide +kernel
theorem dX4_doCues_66 : decode cX4_doCues 66 = .ok (.getfield 83, 3) := by decide +kernel
theorem dX4_doCues_69 : decode cX4_doCues 69 = .ok (.iconst 0, 1) := by decide +kernel
theorem dX4_doCues_70 : decode cX4_doCues 70 = .ok (.iaload, 1) := by decide +kernel
theorem dX4_doCues_71 : decode cX4_doCues 71 = .ok (.iastore, 1) := by decide +kernel
theorem dX4_doCues_72 : decode cX4_doCues 72 = .ok (.aload_n 0, 1) := by decide +kernel
theorem dX4_doCues_73 : decode cX4_doCues 73 = .ok (.getfield 21, 3) := by decide +kernel
theorem dX4_doCues_76 : decode cX4_doCues 76 = .ok (.iconst 0, 1) := by decide +kernel
theorem dX4_doCues_77 : decode cX4_doCues 77 = .ok (.invokevirtual 84, 3) := by decide +kernel
theorem dX4_doCues_80 : decode cX4_doCues 80 = .ok (.aload_n 0, 1) := by decide +kernel
theorem dX4_doCues_81 : decode cX4_doCues 81 = .ok (.dup, 1) := by decide +kernel
theorem dX4_doCues_82 : decode cX4_doCues 82 = .ok (.getfield 56, 3) := by decide +kernel
theorem dX4_doCues_85 : decode cX4_doCues 85 = .ok (.iconst 1, 1) := by decide +kernel
theorem dX4_doCues_86 : decode cX4_doCues 86 = .ok (.iadd, 1) := by decide +kernel
theorem dX4_doCues_87 : decode cX4_doCues 87 = .ok (.putfield 56, 3) := by decide +kernel
theorem dX4_doCues_90 : decode cX4_doCues 90 = .ok (.iinc 1 1, 3) := by decide +kernel
theorem dX4_doCues_93 : decode cX4_doCues 93 = .ok (.goto (-91), 3) := by decide +kernel
theorem dX4_doCues_96 : decode cX4_doCues 96 = .ok (.return_, 1) := by decide +kernel
set_option maxRecDepth 20000 in
theorem ggX4_measureFlow_X2_pumpAsks : GoodIn wsX4_measureFlow wsX2_pumpAsks := goodIn_r _ [7, 8, 9, 10, 6, 11, 12, 13, 45, 46, 47, 48, 49, 50, 51] (by decide +kernel) (by decide +kernel)
set_option maxRecDepth 20000 in
theorem gX4_measureFlow_X2_pumpAsks : GoodIn wsX4_measureFlow (wsV RX4 88 RX2 yX2_pumpAsks wsX2_pumpAsks) := goodIn_app (goodIn_of _ (by decide +kernel)) ggX4_measureFlow_X2_pumpAsks
set_option maxRecDepth 20000 in
theorem ggX4_measureFlow_X2_partOf : GoodIn wsX4_measureFlow wsX2_partOf := goodIn_r _ [17, 18, 12, 19, 20, 21, 22, 8, 9, 10, 6, 11, 13, 23, 24, 25, 26, 27, 28, 29, 30, 31, 32, 33, 34, 45, 46, 47, 48, 49, 50, 51] (by decide +kernel) (by decide +kernel)
set_option maxRecDepth 20000 in
theorem gX4_measureFlow_X2_partOf : GoodIn wsX4_measureFlow (wsV RX4 92 RX2 yX2_partOf wsX2_partOf) := goodIn_app (goodIn_of _ (by decide +kernel)) ggX4_measureFlow_X2_partOf
theorem dX4_measureFlow_0 : decode cX4_measureFlow 0 = .ok (.iconst 0, 1) := by decide +kernel
theorem dX4_measureFlow_1 : decode cX4_measureFlow 1 = .ok (.istore_n 1, 1) := by decide +kernel
theorem dX4_measureFlow_2 : decode cX4_measureFlow 2 = .ok (.iconst 0, 1) := by decide +kernel
theorem dX4_measureFlow_3 : decode cX4_measureFlow 3 = .ok (.istore_n 2, 1) := by decide +kernel
theorem dX4_measureFlow_4 : decode cX4_measureFlow 4 = .ok (.iload_n 2, 1) := by decide +kernel
theorem dX4_measureFlow_5 : decode cX4_measureFlow 5 = .ok (.iconst 2, 1) := by decide +kernel
theorem dX4_measureFlow_6 : decode cX4_measureFlow 6 = .ok (.if_icmp .ge 68, 3) := by decide +kernel
theorem dX4_measureFlow_9 : decode cX4_measureFlow 9 = .ok (.aload_n 0, 1) := by decide +kernel
theorem dX4_measureFlow_10 : decode cX4_measureFlow 10 = .ok (.getfield 12, 3) := by decide +kernel
theorem dX4_measureFlow_13 : decode cX4_measureFlow 13 = .ok (.iload_n 2, 1) := by decide +kernel
theorem dX4_measureFlow_14 : decode cX4_measureFlow 14 = .ok (.invokevirtual 88, 3) := by decide +kernel
theorem dX4_measureFlow_17 : decode cX4_measureFlow 17 = .ok (.istore_n 3, 1) := by decide +kernel
theorem dX4_measureFlow_18 : decode cX4_measureFlow 18 = .ok (.iconst 0, 1) := by decide +kernel
theorem dX4_measureFlow_19 : decode cX4_measureFlow 19 = .ok (.istore 4, 2) := by decide +kernel
theorem dX4_measureFlow_21 : decode cX4_measureFlow 21 = .ok (.iload 4, 2) := by decide +kernel
theorem dX4_measureFlow_23 : decode cX4_measureFlow 23 = .ok (.iconst 4, 1) := by decide +kernel
theorem dX4_measureFlow_24 : decode cX4_measureFlow 24 = .ok (.if_icmp .ge 44, 3) := by decide +kernel
theorem dX4_measureFlow_27 : decode cX4_measureFlow 27 = .ok (.iload_n 2, 1) := by decide +kernel
theorem dX4_measureFlow_28 : decode cX4_measureFlow 28 = .ok (.iconst 4, 1) := by decide +kernel
theorem dX4_measureFlow_29 : decode cX4_measureFlow 29 = .ok (.imul, 1) := by decide +kernel
theorem dX4_measureFlow_30 : decode cX4_measureFlow 30 = .ok (.iload 4, 2) := by decide +kernel
theorem dX4_measureFlow_32 : decode cX4_measureFlow 32 = .ok (.iadd, 1) := by decide +kernel
theorem dX4_measureFlow_33 : decode cX4_measureFlow 33 = .ok (.istore 5, 2) := by decide +kernel
theorem dX4_measureFlow_35 : decode cX4_measureFlow 35 = .ok (.aload_n 0, 1) := by decide +kernel
theorem dX4_measureFlow_36 : decode cX4_measureFlow 36 = .ok (.getfield 29, 3) := by decide +kernel
theorem dX4_measureFlow_39 : decode cX4_measureFlow 39 = .ok (.iload 5, 2) := by decide +kernel
theorem dX4_measureFlow_41 : decode cX4_measureFlow 41 = .ok (.aload_n 0, 1) := by decide +kernel
theorem dX4_measureFlow_42 : decode cX4_measureFlow 42 = .ok (.getfield 12, 3) := by decide +kernel
theorem dX4_measureFlow_45 : decode cX4_measureFlow 45 = .ok (.iload 5, 2) := by decide +kernel
theorem dX4_measureFlow_47 : decode cX4_measureFlow 47 = .ok (.iload_n 3, 1) := by decide +kernel
theorem dX4_measureFlow_48 : decode cX4_measureFlow 48 = .ok (.invokevirtual 92, 3) := by decide +kernel
theorem dX4_measureFlow_51 : decode cX4_measureFlow 51 = .ok (.iastore, 1) := by decide +kernel
theorem dX4_measureFlow_52 : decode cX4_measureFlow 52 = .ok (.iload_n 1, 1) := by decide +kernel
theorem dX4_measureFlow_53 : decode cX4_measureFlow 53 = .ok (.aload_n 0, 1) := by decide +kernel
theorem dX4_measureFlow_54 : decode cX4_measureFlow 54 = .ok (.getfield 29, 3) := by decide +kernel
theorem dX4_measureFlow_57 : decode cX4_measureFlow 57 = .ok (.iload 5, 2) := by decide +kernel
theorem dX4_measureFlow_59 : decode cX4_measureFlow 59 = .ok (.iaload, 1) := by decide +kernel
theorem dX4_measureFlow_60 : decode cX4_measureFlow 60 = .ok (.iadd, 1) := by decide +kernel
theorem dX4_measureFlow_61 : decode cX4_measureFlow 61 = .ok (.istore_n 1, 1) := by decide +kernel
theorem dX4_measureFlow_62 : decode cX4_measureFlow 62 = .ok (.iinc 4 1, 3) := by decide +kernel
theorem dX4_measureFlow_65 : decode cX4_measureFlow 65 = .ok (.goto (-44), 3) := by decide +kernel
theorem dX4_measureFlow_68 : decode cX4_measureFlow 68 = .ok (.iinc 2 1, 3) := by decide +kernel
theorem dX4_measureFlow_71 : decode cX4_measureFlow 71 = .ok (.goto (-67), 3) := by decide +kernel
theorem dX4_measureFlow_74 : decode cX4_measureFlow 74 = .ok (.iload_n 1, 1) := by decide +kernel
theorem dX4_measureFlow_75 : decode cX4_measureFlow 75 = .ok (.ireturn, 1) := by decide +kernel
set_option maxRecDepth 20000 in
theorem ggX4_playJets_X4_measureFlow : GoodIn wsX4_playJets wsX4_measureFlow := goodIn_r _ [16, 3, 5, 17, 18, 19, 20, 21, 22, 23, 24, 25, 26, 27, 28, 29, 30, 31, 32, 33, 34, 9, 35, 36, 37, 38, 39, 40, 41, 42, 43, 44, 45, 8, 10, 54, 55, 56, 57, 58, 59, 60, 61, 62, 63, 64, 65, 66, 67, 68, 69, 70] (by decide +kernel) (by decide +kernel)
set_option maxRecDepth 20000 in
theorem gX4_playJets_X4_measureFlow : GoodIn wsX4_playJets (wsV RX4 96 RX4 yX4_measureFlow wsX4_measureFlow) := goodIn_app (goodIn_of _ (by decide +kernel)) ggX4_playJets_X4_measureFlow
set_option maxRecDepth 20000 in
theorem ggX4_playJets_X2_lossOf : GoodIn wsX4_playJets wsX2_lossOf := goodIn_r _ [49, 43, 44, 64, 65, 66, 67, 68, 69, 70] (by decide +kernel) (by decide +kernel)
set_option maxRecDepth 20000 in
theorem gX4_playJets_X2_lossOf : GoodIn wsX4_playJets (wsV RX4 100 RX2 yX2_lossOf wsX2_lossOf) := goodIn_app (goodIn_of _ (by decide +kernel)) ggX4_playJets_X2_lossOf
set_option maxRecDepth 20000 in
theorem ggX4_playJets_X2_heightWith : GoodIn wsX4_playJets wsX2_heightWith := goodIn_r _ [53, 26, 36, 37, 38, 64, 65, 66, 67, 68, 69, 70] (by decide +kernel) (by decide +kernel)
set_option maxRecDepth 20000 in
theorem gX4_playJets_X2_heightWith : GoodIn wsX4_playJets (wsV RX4 103 RX2 yX2_heightWith wsX2_heightWith) := goodIn_app (goodIn_of _ (by decide +kernel)) ggX4_playJets_X2_heightWith
theorem dX4_playJets_0 : decode cX4_playJets 0 = .ok (.aload_n 0, 1) := by decide +kernel
theorem dX4_playJets_1 : decode cX4_playJets 1 = .ok (.invokevirtual 96, 3) := by decide +kernel
theorem dX4_playJets_4 : decode cX4_playJets 4 = .ok (.istore_n 1, 1) := by decide +kernel
theorem dX4_playJets_5 : decode cX4_playJets 5 = .ok (.aload_n 0, 1) := by decide +kernel
theorem dX4_playJets_6 : decode cX4_playJets 6 = .ok (.getfield 32, 3) := by decide +kernel
theorem dX4_playJets_9 : decode cX4_playJets 9 = .ok (.iload_n 1, 1) := by decide +kernel
theorem dX4_playJets_10 : decode cX4_playJets 10 = .ok (.if_icmp .ge 14, 3) := by decide +kernel
theorem dX4_playJets_13 : decode cX4_playJets 13 = .ok (.aload_n 0, 1) := by decide +kernel
theorem dX4_playJets_14 : decode cX4_playJets 14 = .ok (.dup, 1) := by decide +kernel
theorem dX4_playJets_15 : decode cX4_playJets 15 = .ok (.getfield 53, 3) := by decide +kernel
theorem dX4_playJets_18 : decode cX4_playJets 18 = .ok (.iconst 1, 1) := by decide +kernel
theorem dX4_playJets_19 : decode cX4_playJets 19 = .ok (.iadd, 1) := by decide +kernel
theorem dX4_playJets_20 : decode cX4_playJets 20 = .ok (.putfield 53, 3) := by decide +kernel
theorem dX4_playJets_23 : decode cX4_playJets 23 = .ok (.return_, 1) := by decide +kernel
theorem dX4_playJets_24 : decode cX4_playJets 24 = .ok (.aload_n 0, 1) := by decide +kernel
theorem dX4_playJets_25 : decode cX4_playJets 25 = .ok (.getfield 12, 3) := by decide +kernel
theorem dX4_playJets_28 : decode cX4_playJets 28 = .ok (.iload_n 1, 1) := by decide +kernel
theorem dX4_playJets_29 : decode cX4_playJets 29 = .ok (.invokevirtual 100, 3) := by decide +kernel
theorem dX4_playJets_32 : decode cX4_playJets 32 = .ok (.istore_n 2, 1) := by decide +kernel
theorem dX4_playJets_33 : decode cX4_playJets 33 = .ok (.aload_n 0, 1) := by decide +kernel
theorem dX4_playJets_34 : decode cX4_playJets 34 = .ok (.dup, 1) := by decide +kernel
theorem dX4_playJets_35 : decode cX4_playJets 35 = .ok (.getfield 32, 3) := by decide +kernel
theorem dX4_playJets_38 : decode cX4_playJets 38 = .ok (.iload_n 2, 1) := by decide +kernel
theorem dX4_playJets_39 : decode cX4_playJets 39 = .ok (.isub, 1) := by decide +kernel
theorem dX4_playJets_40 : decode cX4_playJets 40 = .ok (.putfield 32, 3) := by decide +kernel
theorem dX4_playJets_43 : decode cX4_playJets 43 = .ok (.aload_n 0, 1) := by decide +kernel
theorem dX4_playJets_44 : decode cX4_playJets 44 = .ok (.dup, 1) := by decide +kernel
theorem dX4_playJets_45 : decode cX4_playJets 45 = .ok (.getfield 50, 3) := by decide +kernel
theorem dX4_playJets_48 : decode cX4_playJets 48 = .ok (.iload_n 2, 1) := by decide +kernel
theorem dX4_playJets_49 : decode cX4_playJets 49 = .ok (.iadd, 1) := by decide +kernel
theorem dX4_playJets_50 : decode cX4_playJets 50 = .ok (.putfield 50, 3) := by decide +kernel
theorem dX4_playJets_53 : decode cX4_playJets 53 = .ok (.iconst 0, 1) := by decide +kernel
theorem dX4_playJets_54 : decode cX4_playJets 54 = .ok (.istore_n 3, 1) := by decide +kernel
theorem dX4_playJets_55 : decode cX4_playJets 55 = .ok (.iload_n 3, 1) := by decide +kernel
theorem dX4_playJets_56 : decode cX4_playJets 56 = .ok (.bipush 8, 2) := by decide +kernel
theorem dX4_playJets_58 : decode cX4_playJets 58 = .ok (.if_icmp .ge 53, 3) := by decide +kernel
theorem dX4_playJets_61 : decode cX4_playJets 61 = .ok (.aload_n 0, 1) := by decide +kernel
theorem dX4_playJets_62 : decode cX4_playJets 62 = .ok (.getfield 12, 3) := by decide +kernel
theorem dX4_playJets_65 : decode cX4_playJets 65 = .ok (.iload_n 3, 1) := by decide +kernel
theorem dX4_playJets_66 : decode cX4_playJets 66 = .ok (.aload_n 0, 1) := by decide +kernel
theorem dX4_playJets_67 : decode cX4_playJets 67 = .ok (.getfield 29, 3) := by decide +kernel
theorem dX4_playJets_70 : decode cX4_playJets 70 = .ok (.iload_n 3, 1) := by decide +kernel
theorem dX4_playJets_71 : decode cX4_playJets 71 = .ok (.iaload, 1) := by decide +kernel
theorem dX4_playJets_72 : decode cX4_playJets 72 = .ok (.invokevirtual 103, 3) := by decide +kernel
theorem dX4_playJets_75 : decode cX4_playJets 75 = .ok (.istore 4, 2) := by decide +kernel
theorem dX4_playJets_77 : decode cX4_playJets 77 = .ok (.aload_n 0, 1) := by decide +kernel
theorem dX4_playJets_78 : decode cX4_playJets 78 = .ok (.aload_n 0, 1) := by decide +kernel
theorem dX4_playJets_79 : decode cX4_playJets 79 = .ok (.getfield 59, 3) := by decide +kernel
theorem dX4_playJets_82 : decode cX4_playJets 82 = .ok (.iload 4, 2) := by decide +kernel
theorem dX4_playJets_84 : decode cX4_playJets 84 = .ok (.invokestatic 106, 3) := by decide +kernel
theorem dX4_playJets_87 : decode cX4_playJets 87 = .ok (.putfield 59, 3) := by decide +kernel
theorem dX4_playJets_90 : decode cX4_playJets 90 = .ok (.iload 4, 2) := by decide +kernel
theorem dX4_playJets_92 : decode cX4_playJets 92 = .ok (.ifCond .le 13, 3) := by decide +kernel
theorem dX4_playJets_95 : decode cX4_playJets 95 = .ok (.aload_n 0, 1) := by decide +kernel
theorem dX4_playJets_96 : decode cX4_playJets 96 = .ok (.getfield 25, 3) := by decide +kernel
theorem dX4_playJets_99 : decode cX4_playJets 99 = .ok (.iload_n 3, 1) := by decide +kernel
theorem dX4_playJets_100 : decode cX4_playJets 100 = .ok (.dup2, 1) := by decide +kernel
theorem dX4_playJets_101 : decode cX4_playJets 101 = .ok (.iaload, 1) := by decide +kernel
theorem dX4_playJets_102 : decode cX4_playJets 102 = .ok (.iconst 1, 1) := by decide +kernel
theorem dX4_playJets_103 : decode cX4_playJets 103 = .ok (.iadd, 1) := by decide +kernel
theorem dX4_playJets_104 : decode cX4_playJets 104 = .ok (.iastore, 1) := by decide +kernel
theorem dX4_playJets_105 : decode cX4_playJets 105 = .ok (.iinc 3 1, 3) := by decide +kernel
theorem dX4_playJets_108 : decode cX4_playJets 108 = .ok (.goto (-53), 3) := by decide +kernel
theorem dX4_playJets_111 : decode cX4_playJets 111 = .ok (.return_, 1) := by decide +kernel
set_option maxRecDepth 20000 in
theorem ggX4_reasonAgainst_X1_isFull : GoodIn wsX4_reasonAgainst wsX1_isFull := goodIn_r _ [7, 8, 39, 40, 41, 42, 43, 44] (by decide +kernel) (by decide +kernel)
set_option maxRecDepth 20000 in
theorem gX4_reasonAgainst_X1_isFull : GoodIn wsX4_reasonAgainst (wsV RX4 111 RX1 yX1_isFull wsX1_isFull) := goodIn_app (goodIn_of _ (by decide +kernel)) ggX4_reasonAgainst_X1_isFull
set_option maxRecDepth 20000 in
theorem ggX4_reasonAgainst_X1_hasAt : GoodIn wsX4_reasonAgainst wsX1_hasAt := goodIn_r _ [12, 8, 13, 14, 39, 40, 41, 42, 43, 44] (by decide +kernel) (by decide +kernel)
set_option maxRecDepth 20000 in
theorem gX4_reasonAgainst_X1_hasAt : GoodIn wsX4_reasonAgainst (wsV RX4 115 RX1 yX1_hasAt wsX1_hasAt) := goodIn_app (goodIn_of _ (by decide +kernel)) ggX4_reasonAgainst_X1_hasAt
set_option maxRecDepth 20000 in
theorem ggX4_reasonAgainst_X4_asksTooMuch : GoodIn wsX4_reasonAgainst wsX4_asksTooMuch := goodIn_r _ [19, 2, 20, 21, 22, 23, 24, 25, 26, 6, 27, 8, 13, 14, 28, 29, 30, 31, 32, 33, 34, 35, 36, 37, 38, 45, 46, 47, 48, 49, 50, 51, 39, 40, 41, 42, 43, 44] (by decide +kernel) (by decide +kernel)
set_option maxRecDepth 20000 in
theorem gX4_reasonAgainst_X4_asksTooMuch : GoodIn wsX4_reasonAgainst (wsV RX4 119 RX4 yX4_asksTooMuch wsX4_asksTooMuch) := goodIn_app (goodIn_of _ (by decide +kernel)) ggX4_reasonAgainst_X4_asksTooMuch
theorem dX4_reasonAgainst_0 : decode cX4_reasonAgainst 0 = .ok (.iload_n 1, 1) := by decide +kernel
theorem dX4_reasonAgainst_1 : decode cX4_reasonAgainst 1 = .ok (.aload_n 0, 1) := by decide +kernel
theorem dX4_reasonAgainst_2 : decode cX4_reasonAgainst 2 = .ok (.getfield 47, 3) := by decide +kernel
theorem dX4_reasonAgainst_5 : decode cX4_reasonAgainst 5 = .ok (.if_icmp .ge 5, 3) := by decide +kernel
theorem dX4_reasonAgainst_8 : decode cX4_reasonAgainst 8 = .ok (.iconst 1, 1) := by decide +kernel
theorem dX4_reasonAgainst_9 : decode cX4_reasonAgainst 9 = .ok (.ireturn, 1) := by decide +kernel
theorem dX4_reasonAgainst_10 : decode cX4_reasonAgainst 10 = .ok (.aload_n 0, 1) := by decide +kernel
theorem dX4_reasonAgainst_11 : decode cX4_reasonAgainst 11 = .ok (.getfield 21, 3) := by decide +kernel
theorem dX4_reasonAgainst_14 : decode cX4_reasonAgainst 14 = .ok (.invokevirtual 111, 3) := by decide +kernel
theorem dX4_reasonAgainst_17 : decode cX4_reasonAgainst 17 = .ok (.ifCond .eq 5, 3) := by decide +kernel
theorem dX4_reasonAgainst_20 : decode cX4_reasonAgainst 20 = .ok (.iconst 2, 1) := by decide +kernel
theorem dX4_reasonAgainst_21 : decode cX4_reasonAgainst 21 = .ok (.ireturn, 1) := by decide +kernel
theorem dX4_reasonAgainst_22 : decode cX4_reasonAgainst 22 = .ok (.aload_n 0, 1) := by decide +kernel
theorem dX4_reasonAgainst_23 : decode cX4_reasonAgainst 23 = .ok (.getfield 21, 3) := by decide +kernel
theorem dX4_reasonAgainst_26 : decode cX4_reasonAgainst 26 = .ok (.iload_n 1, 1) := by decide +kernel
theorem dX4_reasonAgainst_27 : decode cX4_reasonAgainst 27 = .ok (.iload_n 2, 1) := by decide +kernel
theorem dX4_reasonAgainst_28 : decode cX4_reasonAgainst 28 = .ok (.invokevirtual 115, 3) := by decide +kernel
theorem dX4_reasonAgainst_31 : decode cX4_reasonAgainst 31 = .ok (.ifCond .eq 5, 3) := by decide +kernel
theorem dX4_reasonAgainst_34 : decode cX4_reasonAgainst 34 = .ok (.iconst 3, 1) := by decide +kernel
theorem dX4_reasonAgainst_35 : decode cX4_reasonAgainst 35 = .ok (.ireturn, 1) := by decide +kernel
theorem dX4_reasonAgainst_36 : decode cX4_reasonAgainst 36 = .ok (.aload_n 0, 1) := by decide +kernel
theorem dX4_reasonAgainst_37 : decode cX4_reasonAgainst 37 = .ok (.iload_n 1, 1) := by decide +kernel
theorem dX4_reasonAgainst_38 : decode cX4_reasonAgainst 38 = .ok (.iload_n 2, 1) := by decide +kernel
theorem dX4_reasonAgainst_39 : decode cX4_reasonAgainst 39 = .ok (.iload_n 3, 1) := by decide +kernel
theorem dX4_reasonAgainst_40 : decode cX4_reasonAgainst 40 = .ok (.invokevirtual 119, 3) := by decide +kernel
theorem dX4_reasonAgainst_43 : decode cX4_reasonAgainst 43 = .ok (.ifCond .eq 7, 3) := by decide +kernel
theorem dX4_reasonAgainst_46 : decode cX4_reasonAgainst 46 = .ok (.iconst 4, 1) := by decide +kernel
theorem dX4_reasonAgainst_47 : decode cX4_reasonAgainst 47 = .ok (.goto 4, 3) := by decide +kernel
theorem dX4_reasonAgainst_50 : decode cX4_reasonAgainst 50 = .ok (.iconst 0, 1) := by decide +kernel
theorem dX4_reasonAgainst_51 : decode cX4_reasonAgainst 51 = .ok (.ireturn, 1) := by decide +kernel
set_option maxRecDepth 20000 in
theorem ggX4_asksTooMuch_X1_aimBehind : GoodIn wsX4_asksTooMuch wsX1_aimBehind := goodIn_r _ [10, 11, 12, 13, 14, 32, 33, 34, 35, 36, 37] (by decide +kernel) (by decide +kernel)
set_option maxRecDepth 20000 in
theorem gX4_asksTooMuch_X1_aimBehind : GoodIn wsX4_asksTooMuch (wsV RX4 123 RX1 yX1_aimBehind wsX1_aimBehind) := goodIn_app (goodIn_of _ (by decide +kernel)) ggX4_asksTooMuch_X1_aimBehind
theorem dX4_asksTooMuch_0 : decode cX4_asksTooMuch 0 = .ok (.iload_n 2, 1) := by decide +kernel
theorem dX4_asksTooMuch_1 : decode cX4_asksTooMuch 1 = .ok (.iconst 4, 1) := by decide +kernel
theorem dX4_asksTooMuch_2 : decode cX4_asksTooMuch 2 = .ok (.idiv, 1) := by decide +kernel
theorem dX4_asksTooMuch_3 : decode cX4_asksTooMuch 3 = .ok (.istore 4, 2) := by decide +kernel
theorem dX4_asksTooMuch_5 : decode cX4_asksTooMuch 5 = .ok (.iconst 0, 1) := by decide +kernel
theorem dX4_asksTooMuch_6 : decode cX4_asksTooMuch 6 = .ok (.istore 5, 2) := by decide +kernel
theorem dX4_asksTooMuch_8 : decode cX4_asksTooMuch 8 = .ok (.iconst 0, 1) := by decide +kernel
theorem dX4_asksTooMuch_9 : decode cX4_asksTooMuch 9 = .ok (.istore 6, 2) := by decide +kernel
theorem dX4_asksTooMuch_11 : decode cX4_asksTooMuch 11 = .ok (.iload 6, 2) := by decide +kernel
theorem dX4_asksTooMuch_13 : decode cX4_asksTooMuch 13 = .ok (.iconst 4, 1) := by decide +kernel
theorem dX4_asksTooMuch_14 : decode cX4_asksTooMuch 14 = .ok (.if_icmp .ge 68, 3) := by decide +kernel
theorem dX4_asksTooMuch_17 : decode cX4_asksTooMuch 17 = .ok (.iload 4, 2) := by decide +kernel
theorem dX4_asksTooMuch_19 : decode cX4_asksTooMuch 19 = .ok (.iconst 4, 1) := by decide +kernel
theorem dX4_asksTooMuch_20 : decode cX4_asksTooMuch 20 = .ok (.imul, 1) := by decide +kernel
theorem dX4_asksTooMuch_21 : decode cX4_asksTooMuch 21 = .ok (.iload 6, 2) := by decide +kernel
theorem dX4_asksTooMuch_23 : decode cX4_asksTooMuch 23 = .ok (.iadd, 1) := by decide +kernel
theorem dX4_asksTooMuch_24 : decode cX4_asksTooMuch 24 = .ok (.istore 7, 2) := by decide +kernel
theorem dX4_asksTooMuch_26 : decode cX4_asksTooMuch 26 = .ok (.iload 7, 2) := by decide +kernel
theorem dX4_asksTooMuch_28 : decode cX4_asksTooMuch 28 = .ok (.iload_n 2, 1) := by decide +kernel
theorem dX4_asksTooMuch_29 : decode cX4_asksTooMuch 29 = .ok (.if_icmp .ne 7, 3) := by decide +kernel
theorem dX4_asksTooMuch_32 : decode cX4_asksTooMuch 32 = .ok (.iload_n 3, 1) := by decide +kernel
theorem dX4_asksTooMuch_33 : decode cX4_asksTooMuch 33 = .ok (.goto 23, 3) := by decide +kernel
theorem dX4_asksTooMuch_36 : decode cX4_asksTooMuch 36 = .ok (.aload_n 0, 1) := by decide +kernel
theorem dX4_asksTooMuch_37 : decode cX4_asksTooMuch 37 = .ok (.getfield 21, 3) := by decide +kernel
theorem dX4_asksTooMuch_40 : decode cX4_asksTooMuch 40 = .ok (.iload_n 1, 1) := by decide +kernel
theorem dX4_asksTooMuch_41 : decode cX4_asksTooMuch 41 = .ok (.iload 7, 2) := by decide +kernel
theorem dX4_asksTooMuch_43 : decode cX4_asksTooMuch 43 = .ok (.aload_n 0, 1) := by decide +kernel
theorem dX4_asksTooMuch_44 : decode cX4_asksTooMuch 44 = .ok (.getfield 12, 3) := by decide +kernel
theorem dX4_asksTooMuch_47 : decode cX4_asksTooMuch 47 = .ok (.getfield 80, 3) := by decide +kernel
theorem dX4_asksTooMuch_50 : decode cX4_asksTooMuch 50 = .ok (.iload 7, 2) := by decide +kernel
theorem dX4_asksTooMuch_52 : decode cX4_asksTooMuch 52 = .ok (.iaload, 1) := by decide +kernel
theorem dX4_asksTooMuch_53 : decode cX4_asksTooMuch 53 = .ok (.invokevirtual 123, 3) := by decide +kernel
theorem dX4_asksTooMuch_56 : decode cX4_asksTooMuch 56 = .ok (.istore 8, 2) := by decide +kernel
theorem dX4_asksTooMuch_58 : decode cX4_asksTooMuch 58 = .ok (.iload 5, 2) := by decide +kernel
theorem dX4_asksTooMuch_60 : decode cX4_asksTooMuch 60 = .ok (.aload_n 0, 1) := by decide +kernel
theorem dX4_asksTooMuch_61 : decode cX4_asksTooMuch 61 = .ok (.getfield 12, 3) := by decide +kernel
theorem dX4_asksTooMuch_64 : decode cX4_asksTooMuch 64 = .ok (.getfield 127, 3) := by decide +kernel
theorem dX4_asksTooMuch_67 : decode cX4_asksTooMuch 67 = .ok (.iload 7, 2) := by decide +kernel
theorem dX4_asksTooMuch_69 : decode cX4_asksTooMuch 69 = .ok (.iaload, 1) := by decide +kernel
theorem dX4_asksTooMuch_70 : decode cX4_asksTooMuch 70 = .ok (.iload 8, 2) := by decide +kernel
theorem dX4_asksTooMuch_72 : decode cX4_asksTooMuch 72 = .ok (.imul, 1) := by decide +kernel
theorem dX4_asksTooMuch_73 : decode cX4_asksTooMuch 73 = .ok (.iadd, 1) := by decide +kernel
theorem dX4_asksTooMuch_74 : decode cX4_asksTooMuch 74 = .ok (.istore 5, 2) := by decide +kernel
theorem dX4_asksTooMuch_76 : decode cX4_asksTooMuch 76 = .ok (.iinc 6 1, 3) := by decide +kernel
theorem dX4_asksTooMuch_79 : decode cX4_asksTooMuch 79 = .ok (.goto (-68), 3) := by decide +kernel
theorem dX4_asksTooMuch_82 : decode cX4_asksTooMuch 82 = .ok (.iload 5, 2) := by decide +kernel
theorem dX4_asksTooMuch_84 : decode cX4_asksTooMuch 84 = .ok (.aload_n 0, 1) := by decide +kernel
theorem dX4_asksTooMuch_85 : decode cX4_asksTooMuch 85 = .ok (.getfield 12, 3) := by decide +kernel
theorem dX4_asksTooMuch_88 : decode cX4_asksTooMuch 88 = .ok (.getfield 130, 3) := by decide +kernel
theorem dX4_asksTooMuch_91 : decode cX4_asksTooMuch 91 = .ok (.iload 4, 2) := by decide +kernel
theorem dX4_asksTooMuch_93 : decode cX4_asksTooMuch 93 = .ok (.iaload, 1) := by decide +kernel
theorem dX4_asksTooMuch_94 : decode cX4_asksTooMuch 94 = .ok (.if_icmp .le 7, 3) := by decide +kernel
theorem dX4_asksTooMuch_97 : decode cX4_asksTooMuch 97 = .ok (.iconst 1, 1) := by decide +kernel
theorem dX4_asksTooMuch_98 : decode cX4_asksTooMuch 98 = .ok (.goto 4, 3) := by decide +kernel
theorem dX4_asksTooMuch_101 : decode cX4_asksTooMuch 101 = .ok (.iconst 0, 1) := by decide +kernel
theorem dX4_asksTooMuch_102 : decode cX4_asksTooMuch 102 = .ok (.ireturn, 1) := by decide +kernel
set_option maxRecDepth 20000 in
theorem ggX4_numberOfJet_X2_asks : GoodIn wsX4_numberOfJet wsX2_asks := goodIn_r _ [11, 12, 13, 58, 59, 60, 61, 62, 63, 64] (by decide +kernel) (by decide +kernel)
set_option maxRecDepth 20000 in
theorem gX4_numberOfJet_X2_asks : GoodIn wsX4_numberOfJet (wsV RX4 163 RX2 yX2_asks wsX2_asks) := goodIn_app (goodIn_of _ (by decide +kernel)) ggX4_numberOfJet_X2_asks
set_option maxRecDepth 20000 in
theorem ggX4_numberOfJet_X2_gets : GoodIn wsX4_numberOfJet wsX2_gets := goodIn_r _ [17, 18, 19, 20, 10, 21, 22, 8, 9, 11, 12, 13, 23, 24, 25, 26, 27, 28, 29, 30, 31, 32, 33, 34, 35, 36, 37, 38, 39, 40, 41, 42, 43, 58, 59, 60, 61, 62, 63, 64] (by decide +kernel) (by decide +kernel)
set_option maxRecDepth 20000 in
theorem gX4_numberOfJet_X2_gets : GoodIn wsX4_numberOfJet (wsV RX4 166 RX2 yX2_gets wsX2_gets) := goodIn_app (goodIn_of _ (by decide +kernel)) ggX4_numberOfJet_X2_gets
set_option maxRecDepth 20000 in
theorem ggX4_numberOfJet_X2_heightWith : GoodIn wsX4_numberOfJet wsX2_heightWith := goodIn_r _ [47, 12, 32, 33, 34, 58, 59, 60, 61, 62, 63, 64] (by decide +kernel) (by decide +kernel)
set_option maxRecDepth 20000 in
theorem gX4_numberOfJet_X2_heightWith : GoodIn wsX4_numberOfJet (wsV RX4 103 RX2 yX2_heightWith wsX2_heightWith) := goodIn_app (goodIn_of _ (by decide +kernel)) ggX4_numberOfJet_X2_heightWith
theorem dX4_numberOfJet_0 : decode cX4_numberOfJet 0 = .ok (.iload_n 2, 1) := by decide +kernel
theorem dX4_numberOfJet_1 : decode cX4_numberOfJet 1 = .ok (.tableswitch 118 0 6 #[43, 53, 63, 73, 83, 92, 101], 43) := by decide +kernel
theorem dX4_numberOfJet_44 : decode cX4_numberOfJet 44 = .ok (.aload_n 0, 1) := by decide +kernel
theorem dX4_numberOfJet_45 : decode cX4_numberOfJet 45 = .ok (.getfield 12, 3) := by decide +kernel
theorem dX4_numberOfJet_48 : decode cX4_numberOfJet 48 = .ok (.getfield 127, 3) := by decide +kernel
theorem dX4_numberOfJet_51 : decode cX4_numberOfJet 51 = .ok (.iload_n 1, 1) := by decide +kernel
theorem dX4_numberOfJet_52 : decode cX4_numberOfJet 52 = .ok (.iaload, 1) := by decide +kernel
theorem dX4_numberOfJet_53 : decode cX4_numberOfJet 53 = .ok (.ireturn, 1) := by decide +kernel
theorem dX4_numberOfJet_54 : decode cX4_numberOfJet 54 = .ok (.aload_n 0, 1) := by decide +kernel
theorem dX4_numberOfJet_55 : decode cX4_numberOfJet 55 = .ok (.getfield 12, 3) := by decide +kernel
theorem dX4_numberOfJet_58 : decode cX4_numberOfJet 58 = .ok (.getfield 157, 3) := by decide +kernel
theorem dX4_numberOfJet_61 : decode cX4_numberOfJet 61 = .ok (.iload_n 1, 1) := by decide +kernel
theorem dX4_numberOfJet_62 : decode cX4_numberOfJet 62 = .ok (.iaload, 1) := by decide +kernel
theorem dX4_numberOfJet_63 : decode cX4_numberOfJet 63 = .ok (.ireturn, 1) := by decide +kernel
theorem dX4_numberOfJet_64 : decode cX4_numberOfJet 64 = .ok (.aload_n 0, 1) := by decide +kernel
theorem dX4_numberOfJet_65 : decode cX4_numberOfJet 65 = .ok (.getfield 12, 3) := by decide +kernel
theorem dX4_numberOfJet_68 : decode cX4_numberOfJet 68 = .ok (.getfield 160, 3) := by decide +kernel
theorem dX4_numberOfJet_71 : decode cX4_numberOfJet 71 = .ok (.iload_n 1, 1) := by decide +kernel
theorem dX4_numberOfJet_72 : decode cX4_numberOfJet 72 = .ok (.iaload, 1) := by decide +kernel
theorem dX4_numberOfJet_73 : decode cX4_numberOfJet 73 = .ok (.ireturn, 1) := by decide +kernel
theorem dX4_numberOfJet_74 : decode cX4_numberOfJet 74 = .ok (.aload_n 0, 1) := by decide +kernel
theorem dX4_numberOfJet_75 : decode cX4_numberOfJet 75 = .ok (.getfield 12, 3) := by decide +kernel
theorem dX4_numberOfJet_78 : decode cX4_numberOfJet 78 = .ok (.getfield 80, 3) := by decide +kernel
theorem dX4_numberOfJet_81 : decode cX4_numberOfJet 81 = .ok (.iload_n 1, 1) := by decide +kernel
theorem dX4_numberOfJet_82 : decode cX4_numberOfJet 82 = .ok (.iaload, 1) := by decide +kernel
theorem dX4_numberOfJet_83 : decode cX4_numberOfJet 83 = .ok (.ireturn, 1) := by decide +kernel
theorem dX4_numberOfJet_84 : decode cX4_numberOfJet 84 = .ok (.aload_n 0, 1) := by decide +kernel
theorem dX4_numberOfJet_85 : decode cX4_numberOfJet 85 = .ok (.getfield 12, 3) := by decide +kernel
theorem dX4_numberOfJet_88 : decode cX4_numberOfJet 88 = .ok (.iload_n 1, 1) := by decide +kernel
theorem dX4_numberOfJet_89 : decode cX4_numberOfJet 89 = .ok (.invokevirtual 163, 3) := by decide +kernel
theorem dX4_numberOfJet_92 : decode cX4_numberOfJet 92 = .ok (.ireturn, 1) := by decide +kernel
theorem dX4_numberOfJet_93 : decode cX4_numberOfJet 93 = .ok (.aload_n 0, 1) := by decide +kernel
theorem dX4_numberOfJet_94 : decode cX4_numberOfJet 94 = .ok (.getfield 12, 3) := by decide +kernel
theorem dX4_numberOfJet_97 : decode cX4_numberOfJet 97 = .ok (.iload_n 1, 1) := by decide +kernel
theorem dX4_numberOfJet_98 : decode cX4_numberOfJet 98 = .ok (.invokevirtual 166, 3) := by decide +kernel
theorem dX4_numberOfJet_101 : decode cX4_numberOfJet 101 = .ok (.ireturn, 1) := by decide +kernel
theorem dX4_numberOfJet_102 : decode cX4_numberOfJet 102 = .ok (.aload_n 0, 1) := by decide +kernel
theorem dX4_numberOfJet_103 : decode cX4_numberOfJet 103 = .ok (.getfield 12, 3) := by decide +kernel
theorem dX4_numberOfJet_106 : decode cX4_numberOfJet 106 = .ok (.iload_n 1, 1) := by decide +kernel
theorem dX4_numberOfJet_107 : decode cX4_numberOfJet 107 = .ok (.aload_n 0, 1) := by decide +kernel
theorem dX4_numberOfJet_108 : decode cX4_numberOfJet 108 = .ok (.getfield 12, 3) := by decide +kernel
theorem dX4_numberOfJet_111 : decode cX4_numberOfJet 111 = .ok (.iload_n 1, 1) := by decide +kernel
theorem dX4_numberOfJet_112 : decode cX4_numberOfJet 112 = .ok (.invokevirtual 166, 3) := by decide +kernel
theorem dX4_numberOfJet_115 : decode cX4_numberOfJet 115 = .ok (.invokevirtual 103, 3) := by decide +kernel
theorem dX4_numberOfJet_118 : decode cX4_numberOfJet 118 = .ok (.ireturn, 1) := by decide +kernel
theorem dX4_numberOfJet_119 : decode cX4_numberOfJet 119 = .ok (.aload_n 0, 1) := by decide +kernel
theorem dX4_numberOfJet_120 : decode cX4_numberOfJet 120 = .ok (.getfield 25, 3) := by decide +kernel
theorem dX4_numberOfJet_123 : decode cX4_numberOfJet 123 = .ok (.iload_n 1, 1) := by decide +kernel
theorem dX4_numberOfJet_124 : decode cX4_numberOfJet 124 = .ok (.iaload, 1) := by decide +kernel
theorem dX4_numberOfJet_125 : decode cX4_numberOfJet 125 = .ok (.ireturn, 1) := by decide +kernel
theorem dX4_lampTicksOfColour_0 : decode cX4_lampTicksOfColour 0 = .ok (.iconst 0, 1) := by decide +kernel
theorem dX4_lampTicksOfColour_1 : decode cX4_lampTicksOfColour 1 = .ok (.istore_n 2, 1) := by decide +kernel
theorem dX4_lampTicksOfColour_2 : decode cX4_lampTicksOfColour 2 = .ok (.iconst 0, 1) := by decide +kernel
theorem dX4_lampTicksOfColour_3 : decode cX4_lampTicksOfColour 3 = .ok (.istore_n 3, 1) := by decide +kernel
theorem dX4_lampTicksOfColour_4 : decode cX4_lampTicksOfColour 4 = .ok (.iload_n 3, 1) := by decide +kernel
theorem dX4_lampTicksOfColour_5 : decode cX4_lampTicksOfColour 5 = .ok (.bipush 8, 2) := by decide +kernel
theorem dX4_lampTicksOfColour_7 : decode cX4_lampTicksOfColour 7 = .ok (.if_icmp .ge 31, 3) := by decide +kernel
theorem dX4_lampTicksOfColour_10 : decode cX4_lampTicksOfColour 10 = .ok (.aload_n 0, 1) := by decide +kernel
theorem dX4_lampTicksOfColour_11 : decode cX4_lampTicksOfColour 11 = .ok (.getfield 12, 3) := by decide +kernel
theorem dX4_lampTicksOfColour_14 : decode cX4_lampTicksOfColour 14 = .ok (.getfield 157, 3) := by decide +kernel
theorem dX4_lampTicksOfColour_17 : decode cX4_lampTicksOfColour 17 = .ok (.iload_n 3, 1) := by decide +kernel
theorem dX4_lampTicksOfColour_18 : decode cX4_lampTicksOfColour 18 = .ok (.iaload, 1) := by decide +kernel
theorem dX4_lampTicksOfColour_19 : decode cX4_lampTicksOfColour 19 = .ok (.iload_n 1, 1) := by decide +kernel
theorem dX4_lampTicksOfColour_20 : decode cX4_lampTicksOfColour 20 = .ok (.if_icmp .ne 12, 3) := by decide +kernel
theorem dX4_lampTicksOfColour_23 : decode cX4_lampTicksOfColour 23 = .ok (.iload_n 2, 1) := by decide +kernel
theorem dX4_lampTicksOfColour_24 : decode cX4_lampTicksOfColour 24 = .ok (.aload_n 0, 1) := by decide +kernel
theorem dX4_lampTicksOfColour_25 : decode cX4_lampTicksOfColour 25 = .ok (.getfield 25, 3) := by decide +kernel
theorem dX4_lampTicksOfColour_28 : decode cX4_lampTicksOfColour 28 = .ok (.iload_n 3, 1) := by decide +kernel
theorem dX4_lampTicksOfColour_29 : decode cX4_lampTicksOfColour 29 = .ok (.iaload, 1) := by decide +kernel
theorem dX4_lampTicksOfColour_30 : decode cX4_lampTicksOfColour 30 = .ok (.iadd, 1) := by decide +kernel
theorem dX4_lampTicksOfColour_31 : decode cX4_lampTicksOfColour 31 = .ok (.istore_n 2, 1) := by decide +kernel
theorem dX4_lampTicksOfColour_32 : decode cX4_lampTicksOfColour 32 = .ok (.iinc 3 1, 3) := by decide +kernel
theorem dX4_lampTicksOfColour_35 : decode cX4_lampTicksOfColour 35 = .ok (.goto (-31), 3) := by decide +kernel
theorem dX4_lampTicksOfColour_38 : decode cX4_lampTicksOfColour 38 = .ok (.iload_n 2, 1) := by decide +kernel
theorem dX4_lampTicksOfColour_39 : decode cX4_lampTicksOfColour 39 = .ok (.ireturn, 1) := by decide +kernel
theorem dX5_quotient_0 : decode cX5_quotient 0 = .ok (.iload_n 1, 1) := by decide +kernel
theorem dX5_quotient_1 : decode cX5_quotient 1 = .ok (.ifCond .ne 7, 3) := by decide +kernel
theorem dX5_quotient_4 : decode cX5_quotient 4 = .ok (.iconst 0, 1) := by decide +kernel
theorem dX5_quotient_5 : decode cX5_quotient 5 = .ok (.goto 6, 3) := by decide +kernel
theorem dX5_quotient_8 : decode cX5_quotient 8 = .ok (.iload_n 0, 1) := by decide +kernel
theorem dX5_quotient_9 : decode cX5_quotient 9 = .ok (.iload_n 1, 1) := by decide +kernel
theorem dX5_quotient_10 : decode cX5_quotient 10 = .ok (.idiv, 1) := by decide +kernel
theorem dX5_quotient_11 : decode cX5_quotient 11 = .ok (.ireturn, 1) := by decide +kernel
theorem dX5_copyRow_0 : decode cX5_copyRow 0 = .ok (.iconst 0, 1) := by decide +kernel
theorem dX5_copyRow_1 : decode cX5_copyRow 1 = .ok (.istore_n 2, 1) := by decide +kernel
theorem dX5_copyRow_2 : decode cX5_copyRow 2 = .ok (.iload_n 2, 1) := by decide +kernel
theorem dX5_copyRow_3 : decode cX5_copyRow 3 = .ok (.aload_n 0, 1) := by decide +kernel
theorem dX5_copyRow_4 : decode cX5_copyRow 4 = .ok (.arraylength, 1) := by decide +kernel
theorem dX5_copyRow_5 : decode cX5_copyRow 5 = .ok (.if_icmp .ge 21, 3) := by decide +kernel
theorem dX5_copyRow_8 : decode cX5_copyRow 8 = .ok (.iload_n 2, 1) := by decide +kernel
theorem dX5_copyRow_9 : decode cX5_copyRow 9 = .ok (.aload_n 1, 1) := by decide +kernel
theorem dX5_copyRow_10 : decode cX5_copyRow 10 = .ok (.arraylength, 1) := by decide +kernel
theorem dX5_copyRow_11 : decode cX5_copyRow 11 = .ok (.if_icmp .ge 15, 3) := by decide +kernel
theorem dX5_copyRow_14 : decode cX5_copyRow 14 = .ok (.aload_n 1, 1) := by decide +kernel
theorem dX5_copyRow_15 : decode cX5_copyRow 15 = .ok (.iload_n 2, 1) := by decide +kernel
theorem dX5_copyRow_16 : decode cX5_copyRow 16 = .ok (.aload_n 0, 1) := by decide +kernel
theorem dX5_copyRow_17 : decode cX5_copyRow 17 = .ok (.iload_n 2, 1) := by decide +kernel
theorem dX5_copyRow_18 : decode cX5_copyRow 18 = .ok (.iaload, 1) := by decide +kernel
theorem dX5_copyRow_19 : decode cX5_copyRow 19 = .ok (.iastore, 1) := by decide +kernel
theorem dX5_copyRow_20 : decode cX5_copyRow 20 = .ok (.iinc 2 1, 3) := by decide +kernel
theorem dX5_copyRow_23 : decode cX5_copyRow 23 = .ok (.goto (-21), 3) := by decide +kernel
theorem dX5_copyRow_26 : decode cX5_copyRow 26 = .ok (.return_, 1) := by decide +kernel
