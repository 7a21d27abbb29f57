theorem dX6_init_0 : decode cX6_init 0 = .ok (.aload_n 0, 1) := by decide +kernel
theorem dX6_init_1 : decode cX6_init 1 = .ok (.invokespecial 1, 3) := by decide +kernel
theorem dX6_init_4 : decode cX6_init 4 = .ok (.aload_n 0, 1) := by decide +kernel
theorem dX6_init_5 : decode cX6_init 5 = .ok (.bipush 118, 2) := by decide +kernel
theorem dX6_init_7 : decode cX6_init 7 = .ok (.newarray .int, 2) := by decide +kernel
theorem dX6_init_9 : decode cX6_init 9 = .ok (.putfield 7, 3) := by decide +kernel
theorem dX6_init_12 : decode cX6_init 12 = .ok (.aload_n 0, 1) := by decide +kernel
theorem dX6_init_13 : decode cX6_init 13 = .ok (.bipush 118, 2) := by decide +kernel
theorem dX6_init_15 : decode cX6_init 15 = .ok (.newarray .int, 2) := by decide +kernel
theorem dX6_init_17 : decode cX6_init 17 = .ok (.putfield 13, 3) := by decide +kernel
theorem dX6_init_20 : decode cX6_init 20 = .ok (.aload_n 0, 1) := by decide +kernel
theorem dX6_init_21 : decode cX6_init 21 = .ok (.sipush 708, 3) := by decide +kernel
theorem dX6_init_24 : decode cX6_init 24 = .ok (.newarray .int, 2) := by decide +kernel
theorem dX6_init_26 : decode cX6_init 26 = .ok (.putfield 16, 3) := by decide +kernel
theorem dX6_init_29 : decode cX6_init 29 = .ok (.aload_n 0, 1) := by decide +kernel
theorem dX6_init_30 : decode cX6_init 30 = .ok (.bipush 60, 2) := by decide +kernel
theorem dX6_init_32 : decode cX6_init 32 = .ok (.newarray .int, 2) := by decide +kernel
theorem dX6_init_34 : decode cX6_init 34 = .ok (.putfield 19, 3) := by decide +kernel
theorem dX6_init_37 : decode cX6_init 37 = .ok (.aload_n 0, 1) := by decide +kernel
theorem dX6_init_38 : decode cX6_init 38 = .ok (.bipush 48, 2) := by decide +kernel
theorem dX6_init_40 : decode cX6_init 40 = .ok (.newarray .int, 2) := by decide +kernel
theorem dX6_init_42 : decode cX6_init 42 = .ok (.putfield 22, 3) := by decide +kernel
theorem dX6_init_45 : decode cX6_init 45 = .ok (.aload_n 0, 1) := by decide +kernel
theorem dX6_init_46 : decode cX6_init 46 = .ok (.getfield 7, 3) := by decide +kernel
theorem dX6_init_49 : decode cX6_init 49 = .ok (.iconst 0, 1) := by decide +kernel
theorem dX6_init_50 : decode cX6_init 50 = .ok (.iconst 4, 1) := by decide +kernel
theorem dX6_init_51 : decode cX6_init 51 = .ok (.iastore, 1) := by decide +kernel
theorem dX6_init_52 : decode cX6_init 52 = .ok (.aload_n 0, 1) := by decide +kernel
theorem dX6_init_53 : decode cX6_init 53 = .ok (.getfield 7, 3) := by decide +kernel
theorem dX6_init_56 : decode cX6_init 56 = .ok (.iconst 1, 1) := by decide +kernel
theorem dX6_init_57 : decode cX6_init 57 = .ok (.iconst 2, 1) := by decide +kernel
theorem dX6_init_58 : decode cX6_init 58 = .ok (.iastore, 1) := by decide +kernel
theorem dX6_init_59 : decode cX6_init 59 = .ok (.aload_n 0, 1) := by decide +kernel
theorem dX6_init_60 : decode cX6_init 60 = .ok (.getfield 7, 3) := by decide +kernel
theorem dX6_init_63 : decode cX6_init 63 = .ok (.iconst 2, 1) := by decide +kernel
theorem dX6_init_64 : decode cX6_init 64 = .ok (.iconst 3, 1) := by decide +kernel
theorem dX6_init_65 : decode cX6_init 65 = .ok (.iastore, 1) := by decide +kernel
theorem dX6_init_66 : decode cX6_init 66 = .ok (.aload_n 0, 1) := by decide +kernel
theorem dX6_init_67 : decode cX6_init 67 = .ok (.getfield 7, 3) := by decide +kernel
theorem dX6_init_70 : decode cX6_init 70 = .ok (.iconst 3, 1) := by decide +kernel
theorem dX6_init_71 : decode cX6_init 71 = .ok (.sipush 300, 3) := by decide +kernel
theorem dX6_init_74 : decode cX6_init 74 = .ok (.iastore, 1) := by decide +kernel
theorem dX6_init_75 : decode cX6_init 75 = .ok (.aload_n 0, 1) := by decide +kernel
theorem dX6_init_76 : decode cX6_init 76 = .ok (.getfield 7, 3) := by decide +kernel
theorem dX6_init_79 : decode cX6_init 79 = .ok (.iconst 4, 1) := by decide +kernel
theorem dX6_init_80 : decode cX6_init 80 = .ok (.sipush 300, 3) := by decide +kernel
theorem dX6_init_83 : decode cX6_init 83 = .ok (.iastore, 1) := by decide +kernel
theorem dX6_init_84 : decode cX6_init 84 = .ok (.aload_n 0, 1) := by decide +kernel
theorem dX6_init_85 : decode cX6_init 85 = .ok (.getfield 7, 3) := by decide +kernel
theorem dX6_init_88 : decode cX6_init 88 = .ok (.bipush 6, 2) := by decide +kernel
theorem dX6_init_90 : decode cX6_init 90 = .ok (.sipush 5000, 3) := by decide +kernel
theorem dX6_init_93 : decode cX6_init 93 = .ok (.iastore, 1) := by decide +kernel
theorem dX6_init_94 : decode cX6_init 94 = .ok (.iconst 0, 1) := by decide +kernel
theorem dX6_init_95 : decode cX6_init 95 = .ok (.istore_n 1, 1) := by decide +kernel
theorem dX6_init_96 : decode cX6_init 96 = .ok (.iload_n 1, 1) := by decide +kernel
theorem dX6_init_97 : decode cX6_init 97 = .ok (.bipush 8, 2) := by decide +kernel
theorem dX6_init_99 : decode cX6_init 99 = .ok (.if_icmp .ge 21, 3) := by decide +kernel
theorem dX6_init_102 : decode cX6_init 102 = .ok (.aload_n 0, 1) := by decide +kernel
theorem dX6_init_103 : decode cX6_init 103 = .ok (.getfield 7, 3) := by decide +kernel
theorem dX6_init_106 : decode cX6_init 106 = .ok (.bipush 14, 2) := by decide +kernel
theorem dX6_init_108 : decode cX6_init 108 = .ok (.iconst 5, 1) := by decide +kernel
theorem dX6_init_109 : decode cX6_init 109 = .ok (.iload_n 1, 1) := by decide +kernel
theorem dX6_init_110 : decode cX6_init 110 = .ok (.imul, 1) := by decide +kernel
theorem dX6_init_111 : decode cX6_init 111 = .ok (.iadd, 1) := by decide +kernel
theorem dX6_init_112 : decode cX6_init 112 = .ok (.iconst 5, 1) := by decide +kernel
theorem dX6_init_113 : decode cX6_init 113 = .ok (.iastore, 1) := by decide +kernel
theorem dX6_init_114 : decode cX6_init 114 = .ok (.iinc 1 1, 3) := by decide +kernel
theorem dX6_init_117 : decode cX6_init 117 = .ok (.goto (-21), 3) := by decide +kernel
theorem dX6_init_120 : decode cX6_init 120 = .ok (.return_, 1) := by decide +kernel
theorem dX6_thrown_0 : decode cX6_thrown 0 = .ok (.aload_n 0, 1) := by decide +kernel
theorem dX6_thrown_1 : decode cX6_thrown 1 = .ok (.getfield 25, 3) := by decide +kernel
theorem dX6_thrown_4 : decode cX6_thrown 4 = .ok (.ireturn, 1) := by decide +kernel
theorem dX6_fails_0 : decode cX6_fails 0 = .ok (.aload_n 0, 1) := by decide +kernel
theorem dX6_fails_1 : decode cX6_fails 1 = .ok (.iload_n 1, 1) := by decide +kernel
theorem dX6_fails_2 : decode cX6_fails 2 = .ok (.putfield 25, 3) := by decide +kernel
theorem dX6_fails_5 : decode cX6_fails 5 = .ok (.iconst 0, 1) := by decide +kernel
theorem dX6_fails_6 : decode cX6_fails 6 = .ok (.ireturn, 1) := by decide +kernel
theorem dX6_in_0 : decode cX6_in 0 = .ok (.iload_n 0, 1) := by decide +kernel
theorem dX6_in_1 : decode cX6_in 1 = .ok (.iload_n 1, 1) := by decide +kernel
theorem dX6_in_2 : decode cX6_in 2 = .ok (.if_icmp .lt 12, 3) := by decide +kernel
theorem dX6_in_5 : decode cX6_in 5 = .ok (.iload_n 0, 1) := by decide +kernel
theorem dX6_in_6 : decode cX6_in 6 = .ok (.iload_n 2, 1) := by decide +kernel
theorem dX6_in_7 : decode cX6_in 7 = .ok (.if_icmp .gt 7, 3) := by decide +kernel
theorem dX6_in_10 : decode cX6_in 10 = .ok (.iconst 1, 1) := by decide +kernel
theorem dX6_in_11 : decode cX6_in 11 = .ok (.goto 4, 3) := by decide +kernel
theorem dX6_in_14 : decode cX6_in 14 = .ok (.iconst 0, 1) := by decide +kernel
theorem dX6_in_15 : decode cX6_in 15 = .ok (.ireturn, 1) := by decide +kernel
set_option maxRecDepth 20000 in
theorem ggX6_isJet_X6_in : GoodIn wsX6_isJet wsX6_in := goodIn_r _ [4] (by decide +kernel) (by decide +kernel)
set_option maxRecDepth 20000 in
theorem gX6_isJet_X6_in : GoodIn wsX6_isJet (va_wsS RX6 29 yX6_in wsX6_in) := goodIn_app (goodIn_of _ (by decide +kernel)) ggX6_isJet_X6_in
theorem dX6_isJet_0 : decode cX6_isJet 0 = .ok (.iload_n 0, 1) := by decide +kernel
theorem dX6_isJet_1 : decode cX6_isJet 1 = .ok (.iconst 0, 1) := by decide +kernel
theorem dX6_isJet_2 : decode cX6_isJet 2 = .ok (.bipush 7, 2) := by decide +kernel
theorem dX6_isJet_4 : decode cX6_isJet 4 = .ok (.invokestatic 29, 3) := by decide +kernel
theorem dX6_isJet_7 : decode cX6_isJet 7 = .ok (.ireturn, 1) := by decide +kernel
theorem dX6_of_0 : decode cX6_of 0 = .ok (.aload_n 0, 1) := by decide +kernel
theorem dX6_of_1 : decode cX6_of 1 = .ok (.bipush 14, 2) := by decide +kernel
theorem dX6_of_3 : decode cX6_of 3 = .ok (.iconst 5, 1) := by decide +kernel
theorem dX6_of_4 : decode cX6_of 4 = .ok (.iload_n 1, 1) := by decide +kernel
theorem dX6_of_5 : decode cX6_of 5 = .ok (.imul, 1) := by decide +kernel
theorem dX6_of_6 : decode cX6_of 6 = .ok (.iadd, 1) := by decide +kernel
theorem dX6_of_7 : decode cX6_of 7 = .ok (.iload_n 2, 1) := by decide +kernel
theorem dX6_of_8 : decode cX6_of 8 = .ok (.iadd, 1) := by decide +kernel
theorem dX6_of_9 : decode cX6_of 9 = .ok (.iaload, 1) := by decide +kernel
theorem dX6_of_10 : decode cX6_of 10 = .ok (.ireturn, 1) := by decide +kernel
theorem dX6_by_0 : decode cX6_by 0 = .ok (.aload_n 0, 1) := by decide +kernel
theorem dX6_by_1 : decode cX6_by 1 = .ok (.bipush 54, 2) := by decide +kernel
theorem dX6_by_3 : decode cX6_by 3 = .ok (.iconst 4, 1) := by decide +kernel
theorem dX6_by_4 : decode cX6_by 4 = .ok (.iload_n 1, 1) := by decide +kernel
theorem dX6_by_5 : decode cX6_by 5 = .ok (.imul, 1) := by decide +kernel
theorem dX6_by_6 : decode cX6_by 6 = .ok (.iadd, 1) := by decide +kernel
theorem dX6_by_7 : decode cX6_by 7 = .ok (.iload_n 2, 1) := by decide +kernel
theorem dX6_by_8 : decode cX6_by 8 = .ok (.iadd, 1) := by decide +kernel
theorem dX6_by_9 : decode cX6_by 9 = .ok (.iaload, 1) := by decide +kernel
theorem dX6_by_10 : decode cX6_by 10 = .ok (.ireturn, 1) := by decide +kernel
theorem dX6_copies_0 : decode cX6_copies 0 = .ok (.iconst 0, 1) := by decide +kernel
theorem dX6_copies_1 : decode cX6_copies 1 = .ok (.istore 4, 2) := by decide +kernel
theorem dX6_copies_3 : decode cX6_copies 3 = .ok (.iload 4, 2) := by decide +kernel
theorem dX6_copies_5 : decode cX6_copies 5 = .ok (.bipush 118, 2) := by decide +kernel
theorem dX6_copies_7 : decode cX6_copies 7 = .ok (.if_icmp .ge 21, 3) := by decide +kernel
theorem dX6_copies_10 : decode cX6_copies 10 = .ok (.aload_n 2, 1) := by decide +kernel
theorem dX6_copies_11 : decode cX6_copies 11 = .ok (.iload_n 3, 1) := by decide +kernel
theorem dX6_copies_12 : decode cX6_copies 12 = .ok (.iload 4, 2) := by decide +kernel
theorem dX6_copies_14 : decode cX6_copies 14 = .ok (.iadd, 1) := by decide +kernel
theorem dX6_copies_15 : decode cX6_copies 15 = .ok (.aload_n 0, 1) := by decide +kernel
theorem dX6_copies_16 : decode cX6_copies 16 = .ok (.iload_n 1, 1) := by decide +kernel
theorem dX6_copies_17 : decode cX6_copies 17 = .ok (.iload 4, 2) := by decide +kernel
theorem dX6_copies_19 : decode cX6_copies 19 = .ok (.iadd, 1) := by decide +kernel
theorem dX6_copies_20 : decode cX6_copies 20 = .ok (.iaload, 1) := by decide +kernel
theorem dX6_copies_21 : decode cX6_copies 21 = .ok (.iastore, 1) := by decide +kernel
theorem dX6_copies_22 : decode cX6_copies 22 = .ok (.iinc 4 1, 3) := by decide +kernel
theorem dX6_copies_25 : decode cX6_copies 25 = .ok (.goto (-22), 3) := by decide +kernel
theorem dX6_copies_28 : decode cX6_copies 28 = .ok (.return_, 1) := by decide +kernel
set_option maxRecDepth 20000 in
theorem ggX6_saves_X6_copies : GoodIn wsX6_saves wsX6_copies := goodIn_r _ [7] (by decide +kernel) (by decide +kernel)
set_option maxRecDepth 20000 in
theorem gX6_saves_X6_copies : GoodIn wsX6_saves (va_wsS RX6 36 yX6_copies wsX6_copies) := goodIn_app (goodIn_of _ (by decide +kernel)) ggX6_saves_X6_copies
theorem dX6_saves_0 : decode cX6_saves 0 = .ok (.aload_n 0, 1) := by decide +kernel
theorem dX6_saves_1 : decode cX6_saves 1 = .ok (.getfield 33, 3) := by decide +kernel
theorem dX6_saves_4 : decode cX6_saves 4 = .ok (.bipush 6, 2) := by decide +kernel
theorem dX6_saves_6 : decode cX6_saves 6 = .ok (.if_icmp .ne 43, 3) := by decide +kernel
theorem dX6_saves_9 : decode cX6_saves 9 = .ok (.iconst 0, 1) := by decide +kernel
theorem dX6_saves_10 : decode cX6_saves 10 = .ok (.istore_n 1, 1) := by decide +kernel
theorem dX6_saves_11 : decode cX6_saves 11 = .ok (.iload_n 1, 1) := by decide +kernel
theorem dX6_saves_12 : decode cX6_saves 12 = .ok (.sipush 590, 3) := by decide +kernel
theorem dX6_saves_15 : decode cX6_saves 15 = .ok (.if_icmp .ge 24, 3) := by decide +kernel
theorem dX6_saves_18 : decode cX6_saves 18 = .ok (.aload_n 0, 1) := by decide +kernel
theorem dX6_saves_19 : decode cX6_saves 19 = .ok (.getfield 16, 3) := by decide +kernel
theorem dX6_saves_22 : decode cX6_saves 22 = .ok (.iload_n 1, 1) := by decide +kernel
theorem dX6_saves_23 : decode cX6_saves 23 = .ok (.aload_n 0, 1) := by decide +kernel
theorem dX6_saves_24 : decode cX6_saves 24 = .ok (.getfield 16, 3) := by decide +kernel
theorem dX6_saves_27 : decode cX6_saves 27 = .ok (.iload_n 1, 1) := by decide +kernel
theorem dX6_saves_28 : decode cX6_saves 28 = .ok (.bipush 118, 2) := by decide +kernel
theorem dX6_saves_30 : decode cX6_saves 30 = .ok (.iadd, 1) := by decide +kernel
theorem dX6_saves_31 : decode cX6_saves 31 = .ok (.iaload, 1) := by decide +kernel
theorem dX6_saves_32 : decode cX6_saves 32 = .ok (.iastore, 1) := by decide +kernel
theorem dX6_saves_33 : decode cX6_saves 33 = .ok (.iinc 1 1, 3) := by decide +kernel
theorem dX6_saves_36 : decode cX6_saves 36 = .ok (.goto (-25), 3) := by decide +kernel
theorem dX6_saves_39 : decode cX6_saves 39 = .ok (.aload_n 0, 1) := by decide +kernel
theorem dX6_saves_40 : decode cX6_saves 40 = .ok (.dup, 1) := by decide +kernel
theorem dX6_saves_41 : decode cX6_saves 41 = .ok (.getfield 33, 3) := by decide +kernel
theorem dX6_saves_44 : decode cX6_saves 44 = .ok (.iconst 1, 1) := by decide +kernel
theorem dX6_saves_45 : decode cX6_saves 45 = .ok (.isub, 1) := by decide +kernel
theorem dX6_saves_46 : decode cX6_saves 46 = .ok (.putfield 33, 3) := by decide +kernel
theorem dX6_saves_49 : decode cX6_saves 49 = .ok (.aload_n 0, 1) := by decide +kernel
theorem dX6_saves_50 : decode cX6_saves 50 = .ok (.getfield 7, 3) := by decide +kernel
theorem dX6_saves_53 : decode cX6_saves 53 = .ok (.iconst 0, 1) := by decide +kernel
theorem dX6_saves_54 : decode cX6_saves 54 = .ok (.aload_n 0, 1) := by decide +kernel
theorem dX6_saves_55 : decode cX6_saves 55 = .ok (.getfield 16, 3) := by decide +kernel
theorem dX6_saves_58 : decode cX6_saves 58 = .ok (.bipush 118, 2) := by decide +kernel
theorem dX6_saves_60 : decode cX6_saves 60 = .ok (.aload_n 0, 1) := by decide +kernel
theorem dX6_saves_61 : decode cX6_saves 61 = .ok (.getfield 33, 3) := by decide +kernel
theorem dX6_saves_64 : decode cX6_saves 64 = .ok (.imul, 1) := by decide +kernel
theorem dX6_saves_65 : decode cX6_saves 65 = .ok (.invokestatic 36, 3) := by decide +kernel
theorem dX6_saves_68 : decode cX6_saves 68 = .ok (.aload_n 0, 1) := by decide +kernel
theorem dX6_saves_69 : decode cX6_saves 69 = .ok (.dup, 1) := by decide +kernel
theorem dX6_saves_70 : decode cX6_saves 70 = .ok (.getfield 33, 3) := by decide +kernel
theorem dX6_saves_73 : decode cX6_saves 73 = .ok (.iconst 1, 1) := by decide +kernel
theorem dX6_saves_74 : decode cX6_saves 74 = .ok (.iadd, 1) := by decide +kernel
theorem dX6_saves_75 : decode cX6_saves 75 = .ok (.putfield 33, 3) := by decide +kernel
theorem dX6_saves_78 : decode cX6_saves 78 = .ok (.return_, 1) := by decide +kernel
set_option maxRecDepth 20000 in
theorem ggX6_undo_X6_fails : GoodIn wsX6_undo wsX6_fails := goodIn_r _ [9, 1, 13, 14, 15, 16, 17, 18, 19, 20, 21, 22, 23, 24, 25, 26] (by decide +kernel) (by decide +kernel)
set_option maxRecDepth 20000 in
theorem gX6_undo_X6_fails : GoodIn wsX6_undo (wsV RX6 40 RX6 yX6_fails wsX6_fails) := goodIn_app (goodIn_of _ (by decide +kernel)) ggX6_undo_X6_fails
set_option maxRecDepth 20000 in
theorem ggX6_undo_X6_copies : GoodIn wsX6_undo wsX6_copies := goodIn_r _ [12] (by decide +kernel) (by decide +kernel)
set_option maxRecDepth 20000 in
theorem gX6_undo_X6_copies : GoodIn wsX6_undo (va_wsS RX6 36 yX6_copies wsX6_copies) := goodIn_app (goodIn_of _ (by decide +kernel)) ggX6_undo_X6_copies
theorem dX6_undo_0 : decode cX6_undo 0 = .ok (.aload_n 0, 1) := by decide +kernel
theorem dX6_undo_1 : decode cX6_undo 1 = .ok (.iconst 0, 1) := by decide +kernel
theorem dX6_undo_2 : decode cX6_undo 2 = .ok (.putfield 25, 3) := by decide +kernel
theorem dX6_undo_5 : decode cX6_undo 5 = .ok (.aload_n 0, 1) := by decide +kernel
theorem dX6_undo_6 : decode cX6_undo 6 = .ok (.getfield 33, 3) := by decide +kernel
theorem dX6_undo_9 : decode cX6_undo 9 = .ok (.ifCond .ne 9, 3) := by decide +kernel
theorem dX6_undo_12 : decode cX6_undo 12 = .ok (.aload_n 0, 1) := by decide +kernel
theorem dX6_undo_13 : decode cX6_undo 13 = .ok (.iconst 1, 1) := by decide +kernel
theorem dX6_undo_14 : decode cX6_undo 14 = .ok (.invokevirtual 40, 3) := by decide +kernel
theorem dX6_undo_17 : decode cX6_undo 17 = .ok (.ireturn, 1) := by decide +kernel
theorem dX6_undo_18 : decode cX6_undo 18 = .ok (.aload_n 0, 1) := by decide +kernel
theorem dX6_undo_19 : decode cX6_undo 19 = .ok (.dup, 1) := by decide +kernel
theorem dX6_undo_20 : decode cX6_undo 20 = .ok (.getfield 33, 3) := by decide +kernel
theorem dX6_undo_23 : decode cX6_undo 23 = .ok (.iconst 1, 1) := by decide +kernel
theorem dX6_undo_24 : decode cX6_undo 24 = .ok (.isub, 1) := by decide +kernel
theorem dX6_undo_25 : decode cX6_undo 25 = .ok (.putfield 33, 3) := by decide +kernel
theorem dX6_undo_28 : decode cX6_undo 28 = .ok (.aload_n 0, 1) := by decide +kernel
theorem dX6_undo_29 : decode cX6_undo 29 = .ok (.getfield 16, 3) := by decide +kernel
theorem dX6_undo_32 : decode cX6_undo 32 = .ok (.bipush 118, 2) := by decide +kernel
theorem dX6_undo_34 : decode cX6_undo 34 = .ok (.aload_n 0, 1) := by decide +kernel
theorem dX6_undo_35 : decode cX6_undo 35 = .ok (.getfield 33, 3) := by decide +kernel
theorem dX6_undo_38 : decode cX6_undo 38 = .ok (.imul, 1) := by decide +kernel
theorem dX6_undo_39 : decode cX6_undo 39 = .ok (.aload_n 0, 1) := by decide +kernel
theorem dX6_undo_40 : decode cX6_undo 40 = .ok (.getfield 7, 3) := by decide +kernel
theorem dX6_undo_43 : decode cX6_undo 43 = .ok (.iconst 0, 1) := by decide +kernel
theorem dX6_undo_44 : decode cX6_undo 44 = .ok (.invokestatic 36, 3) := by decide +kernel
theorem dX6_undo_47 : decode cX6_undo 47 = .ok (.aload_n 0, 1) := by decide +kernel
theorem dX6_undo_48 : decode cX6_undo 48 = .ok (.getfield 33, 3) := by decide +kernel
theorem dX6_undo_51 : decode cX6_undo 51 = .ok (.ireturn, 1) := by decide +kernel
set_option maxRecDepth 20000 in
theorem ggX6_asks_X6_of : GoodIn wsX6_asks wsX6_of := goodIn_r _ [4] (by decide +kernel) (by decide +kernel)
set_option maxRecDepth 20000 in
theorem gX6_asks_X6_of : GoodIn wsX6_asks (va_wsS RX6 44 yX6_of wsX6_of) := goodIn_app (goodIn_of _ (by decide +kernel)) ggX6_asks_X6_of
theorem dX6_asks_0 : decode cX6_asks 0 = .ok (.aload_n 0, 1) := by decide +kernel
theorem dX6_asks_1 : decode cX6_asks 1 = .ok (.iload_n 1, 1) := by decide +kernel
theorem dX6_asks_2 : decode cX6_asks 2 = .ok (.iconst 0, 1) := by decide +kernel
theorem dX6_asks_3 : decode cX6_asks 3 = .ok (.invokestatic 44, 3) := by decide +kernel
theorem dX6_asks_6 : decode cX6_asks 6 = .ok (.aload_n 0, 1) := by decide +kernel
theorem dX6_asks_7 : decode cX6_asks 7 = .ok (.iload_n 1, 1) := by decide +kernel
theorem dX6_asks_8 : decode cX6_asks 8 = .ok (.iconst 2, 1) := by decide +kernel
theorem dX6_asks_9 : decode cX6_asks 9 = .ok (.invokestatic 44, 3) := by decide +kernel
theorem dX6_asks_12 : decode cX6_asks 12 = .ok (.imul, 1) := by decide +kernel
theorem dX6_asks_13 : decode cX6_asks 13 = .ok (.ireturn, 1) := by decide +kernel
set_option maxRecDepth 20000 in
theorem ggX6_pumpAsks_X6_asks : GoodIn wsX6_pumpAsks wsX6_asks := goodIn_r _ [4, 5, 6, 3, 7] (by decide +kernel) (by decide +kernel)
set_option maxRecDepth 20000 in
theorem gX6_pumpAsks_X6_asks : GoodIn wsX6_pumpAsks (va_wsS RX6 48 yX6_asks wsX6_asks) := goodIn_app (goodIn_of _ (by decide +kernel)) ggX6_pumpAsks_X6_asks
theorem dX6_pumpAsks_0 : decode cX6_pumpAsks 0 = .ok (.iconst 0, 1) := by decide +kernel
theorem dX6_pumpAsks_1 : decode cX6_pumpAsks 1 = .ok (.istore_n 2, 1) := by decide +kernel
theorem dX6_pumpAsks_2 : decode cX6_pumpAsks 2 = .ok (.iconst 4, 1) := by decide +kernel
theorem dX6_pumpAsks_3 : decode cX6_pumpAsks 3 = .ok (.iload_n 1, 1) := by decide +kernel
theorem dX6_pumpAsks_4 : decode cX6_pumpAsks 4 = .ok (.imul, 1) := by decide +kernel
theorem dX6_pumpAsks_5 : decode cX6_pumpAsks 5 = .ok (.istore_n 3, 1) := by decide +kernel
theorem dX6_pumpAsks_6 : decode cX6_pumpAsks 6 = .ok (.iload_n 3, 1) := by decide +kernel
theorem dX6_pumpAsks_7 : decode cX6_pumpAsks 7 = .ok (.iconst 4, 1) := by decide +kernel
theorem dX6_pumpAsks_8 : decode cX6_pumpAsks 8 = .ok (.iload_n 1, 1) := by decide +kernel
theorem dX6_pumpAsks_9 : decode cX6_pumpAsks 9 = .ok (.imul, 1) := by decide +kernel
theorem dX6_pumpAsks_10 : decode cX6_pumpAsks 10 = .ok (.iconst 4, 1) := by decide +kernel
theorem dX6_pumpAsks_11 : decode cX6_pumpAsks 11 = .ok (.iadd, 1) := by decide +kernel
theorem dX6_pumpAsks_12 : decode cX6_pumpAsks 12 = .ok (.if_icmp .ge 17, 3) := by decide +kernel
theorem dX6_pumpAsks_15 : decode cX6_pumpAsks 15 = .ok (.iload_n 2, 1) := by decide +kernel
theorem dX6_pumpAsks_16 : decode cX6_pumpAsks 16 = .ok (.aload_n 0, 1) := by decide +kernel
theorem dX6_pumpAsks_17 : decode cX6_pumpAsks 17 = .ok (.iload_n 3, 1) := by decide +kernel
theorem dX6_pumpAsks_18 : decode cX6_pumpAsks 18 = .ok (.invokestatic 48, 3) := by decide +kernel
theorem dX6_pumpAsks_21 : decode cX6_pumpAsks 21 = .ok (.iadd, 1) := by decide +kernel
theorem dX6_pumpAsks_22 : decode cX6_pumpAsks 22 = .ok (.istore_n 2, 1) := by decide +kernel
theorem dX6_pumpAsks_23 : decode cX6_pumpAsks 23 = .ok (.iinc 3 1, 3) := by decide +kernel
theorem dX6_pumpAsks_26 : decode cX6_pumpAsks 26 = .ok (.goto (-20), 3) := by decide +kernel
theorem dX6_pumpAsks_29 : decode cX6_pumpAsks 29 = .ok (.iload_n 2, 1) := by decide +kernel
theorem dX6_pumpAsks_30 : decode cX6_pumpAsks 30 = .ok (.ireturn, 1) := by decide +kernel
set_option maxRecDepth 20000 in
theorem ggX6_gets_X6_pumpAsks : GoodIn wsX6_gets wsX6_pumpAsks := goodIn_r _ [4, 5, 6, 3, 7, 8, 9, 10] (by decide +kernel) (by decide +kernel)
set_option maxRecDepth 20000 in
theorem gX6_gets_X6_pumpAsks : GoodIn wsX6_gets (va_wsS RX6 52 yX6_pumpAsks wsX6_pumpAsks) := goodIn_app (goodIn_of _ (by decide +kernel)) ggX6_gets_X6_pumpAsks
set_option maxRecDepth 20000 in
theorem ggX6_gets_X6_asks : GoodIn wsX6_gets wsX6_asks := goodIn_r _ [7, 8, 9, 3, 10] (by decide +kernel) (by decide +kernel)
set_option maxRecDepth 20000 in
theorem gX6_gets_X6_asks : GoodIn wsX6_gets (va_wsS RX6 48 yX6_asks wsX6_asks) := goodIn_app (goodIn_of _ (by decide +kernel)) ggX6_gets_X6_asks
set_option maxRecDepth 20000 in
theorem ggX6_gets_X6_of : GoodIn wsX6_gets wsX6_of := goodIn_r _ [10] (by decide +kernel) (by decide +kernel)
set_option maxRecDepth 20000 in
theorem gX6_gets_X6_of : GoodIn wsX6_gets (va_wsS RX6 44 yX6_of wsX6_of) := goodIn_app (goodIn_of _ (by decide +kernel)) ggX6_gets_X6_of
theorem dX6_gets_0 : decode cX6_gets 0 = .ok (.aload_n 0, 1) := by decide +kernel
theorem dX6_gets_1 : decode cX6_gets 1 = .ok (.iload_n 1, 1) := by decide +kernel
theorem dX6_gets_2 : decode cX6_gets 2 = .ok (.iconst 4, 1) := by decide +kernel
theorem dX6_gets_3 : decode cX6_gets 3 = .ok (.idiv, 1) := by decide +kernel
theorem dX6_gets_4 : decode cX6_gets 4 = .ok (.invokestatic 52, 3) := by decide +kernel
theorem dX6_gets_7 : decode cX6_gets 7 = .ok (.istore_n 2, 1) := by decide +kernel
theorem dX6_gets_8 : decode cX6_gets 8 = .ok (.aload_n 0, 1) := by decide +kernel
theorem dX6_gets_9 : decode cX6_gets 9 = .ok (.iconst 3, 1) := by decide +kernel
theorem dX6_gets_10 : decode cX6_gets 10 = .ok (.iload_n 1, 1) := by decide +kernel
theorem dX6_gets_11 : decode cX6_gets 11 = .ok (.iconst 4, 1) := by decide +kernel
theorem dX6_gets_12 : decode cX6_gets 12 = .ok (.idiv, 1) := by decide +kernel
theorem dX6_gets_13 : decode cX6_gets 13 = .ok (.iadd, 1) := by decide +kernel
theorem dX6_gets_14 : decode cX6_gets 14 = .ok (.iaload, 1) := by decide +kernel
theorem dX6_gets_15 : decode cX6_gets 15 = .ok (.istore_n 3, 1) := by decide +kernel
theorem dX6_gets_16 : decode cX6_gets 16 = .ok (.iload_n 2, 1) := by decide +kernel
theorem dX6_gets_17 : decode cX6_gets 17 = .ok (.iload_n 3, 1) := by decide +kernel
theorem dX6_gets_18 : decode cX6_gets 18 = .ok (.if_icmp .le 15, 3) := by decide +kernel
theorem dX6_gets_21 : decode cX6_gets 21 = .ok (.aload_n 0, 1) := by decide +kernel
theorem dX6_gets_22 : decode cX6_gets 22 = .ok (.iload_n 1, 1) := by decide +kernel
theorem dX6_gets_23 : decode cX6_gets 23 = .ok (.invokestatic 48, 3) := by decide +kernel
theorem dX6_gets_26 : decode cX6_gets 26 = .ok (.iload_n 3, 1) := by decide +kernel
theorem dX6_gets_27 : decode cX6_gets 27 = .ok (.imul, 1) := by decide +kernel
theorem dX6_gets_28 : decode cX6_gets 28 = .ok (.iload_n 2, 1) := by decide +kernel
theorem dX6_gets_29 : decode cX6_gets 29 = .ok (.idiv, 1) := by decide +kernel
theorem dX6_gets_30 : decode cX6_gets 30 = .ok (.goto 8, 3) := by decide +kernel
theorem dX6_gets_33 : decode cX6_gets 33 = .ok (.aload_n 0, 1) := by decide +kernel
theorem dX6_gets_34 : decode cX6_gets 34 = .ok (.iload_n 1, 1) := by decide +kernel
theorem dX6_gets_35 : decode cX6_gets 35 = .ok (.invokestatic 48, 3) := by decide +kernel
theorem dX6_gets_38 : decode cX6_gets 38 = .ok (.istore 4, 2) := by decide +kernel
theorem dX6_gets_40 : decode cX6_gets 40 = .ok (.bipush 10, 2) := by decide +kernel
theorem dX6_gets_42 : decode cX6_gets 42 = .ok (.aload_n 0, 1) := by decide +kernel
theorem dX6_gets_43 : decode cX6_gets 43 = .ok (.iconst 0, 1) := by decide +kernel
theorem dX6_gets_44 : decode cX6_gets 44 = .ok (.iaload, 1) := by decide +kernel
theorem dX6_gets_45 : decode cX6_gets 45 = .ok (.iadd, 1) := by decide +kernel
theorem dX6_gets_46 : decode cX6_gets 46 = .ok (.aload_n 0, 1) := by decide +kernel
theorem dX6_gets_47 : decode cX6_gets 47 = .ok (.iconst 5, 1) := by decide +kernel
theorem dX6_gets_48 : decode cX6_gets 48 = .ok (.iaload, 1) := by decide +kernel
theorem dX6_gets_49 : decode cX6_gets 49 = .ok (.isub, 1) := by decide +kernel
theorem dX6_gets_50 : decode cX6_gets 50 = .ok (.istore 5, 2) := by decide +kernel
theorem dX6_gets_52 : decode cX6_gets 52 = .ok (.iload 5, 2) := by decide +kernel
theorem dX6_gets_54 : decode cX6_gets 54 = .ok (.ifCond .ge 7, 3) := by decide +kernel
theorem dX6_gets_57 : decode cX6_gets 57 = .ok (.iconst 0, 1) := by decide +kernel
theorem dX6_gets_58 : decode cX6_gets 58 = .ok (.goto 5, 3) := by decide +kernel
theorem dX6_gets_61 : decode cX6_gets 61 = .ok (.iload 5, 2) := by decide +kernel
theorem dX6_gets_63 : decode cX6_gets 63 = .ok (.istore 5, 2) := by decide +kernel
theorem dX6_gets_65 : decode cX6_gets 65 = .ok (.aload_n 0, 1) := by decide +kernel
theorem dX6_gets_66 : decode cX6_gets 66 = .ok (.iconst 5, 1) := by decide +kernel
theorem dX6_gets_67 : decode cX6_gets 67 = .ok (.iaload, 1) := by decide +kernel
theorem dX6_gets_68 : decode cX6_gets 68 = .ok (.aload_n 0, 1) := by decide +kernel
theorem dX6_gets_69 : decode cX6_gets 69 = .ok (.iconst 0, 1) := by decide +kernel
theorem dX6_gets_70 : decode cX6_gets 70 = .ok (.iaload, 1) := by decide +kernel
theorem dX6_gets_71 : decode cX6_gets 71 = .ok (.if_icmp .le 29, 3) := by decide +kernel
theorem dX6_gets_74 : decode cX6_gets 74 = .ok (.iload 4, 2) := by decide +kernel
theorem dX6_gets_76 : decode cX6_gets 76 = .ok (.iload 5, 2) := by decide +kernel
theorem dX6_gets_78 : decode cX6_gets 78 = .ok (.aload_n 0, 1) := by decide +kernel
theorem dX6_gets_79 : decode cX6_gets 79 = .ok (.iload_n 1, 1) := by decide +kernel
theorem dX6_gets_80 : decode cX6_gets 80 = .ok (.iconst 0, 1) := by decide +kernel
theorem dX6_gets_81 : decode cX6_gets 81 = .ok (.invokestatic 44, 3) := by decide +kernel
theorem dX6_gets_84 : decode cX6_gets 84 = .ok (.imul, 1) := by decide +kernel
theorem dX6_gets_85 : decode cX6_gets 85 = .ok (.if_icmp .le 15, 3) := by decide +kernel
theorem dX6_gets_88 : decode cX6_gets 88 = .ok (.iload 5, 2) := by decide +kernel
theorem dX6_gets_90 : decode cX6_gets 90 = .ok (.aload_n 0, 1) := by decide +kernel
theorem dX6_gets_91 : decode cX6_gets 91 = .ok (.iload_n 1, 1) := by decide +kernel
theorem dX6_gets_92 : decode cX6_gets 92 = .ok (.iconst 0, 1) := by decide +kernel
theorem dX6_gets_93 : decode cX6_gets 93 = .ok (.invokestatic 44, 3) := by decide +kernel
theorem dX6_gets_96 : decode cX6_gets 96 = .ok (.imul, 1) := by decide +kernel
theorem dX6_gets_97 : decode cX6_gets 97 = .ok (.goto 5, 3) := by decide +kernel
theorem dX6_gets_100 : decode cX6_gets 100 = .ok (.iload 4, 2) := by decide +kernel
theorem dX6_gets_102 : decode cX6_gets 102 = .ok (.ireturn, 1) := by decide +kernel
set_option maxRecDepth 20000 in
theorem ggX6_height_X6_gets : GoodIn wsX6_height wsX6_gets := goodIn_r _ [4, 5, 6, 3, 7, 8, 9, 10, 11, 12, 13] (by decide +kernel) (by decide +kernel)
set_option maxRecDepth 20000 in
theorem gX6_height_X6_gets : GoodIn wsX6_height (va_wsS RX6 55 yX6_gets wsX6_gets) := goodIn_app (goodIn_of _ (by decide +kernel)) ggX6_height_X6_gets
set_option maxRecDepth 20000 in
theorem ggX6_height_X6_of : GoodIn wsX6_height wsX6_of := goodIn_r _ [13] (by decide +kernel) (by decide +kernel)
set_option maxRecDepth 20000 in
theorem gX6_height_X6_of : GoodIn wsX6_height (va_wsS RX6 44 yX6_of wsX6_of) := goodIn_app (goodIn_of _ (by decide +kernel)) ggX6_height_X6_of
theorem dX6_height_0 : decode cX6_height 0 = .ok (.aload_n 0, 1) := by decide +kernel
theorem dX6_height_1 : decode cX6_height 1 = .ok (.iload_n 1, 1) := by decide +kernel
theorem dX6_height_2 : decode cX6_height 2 = .ok (.invokestatic 55, 3) := by decide +kernel
theorem dX6_height_5 : decode cX6_height 5 = .ok (.aload_n 0, 1) := by decide +kernel
theorem dX6_height_6 : decode cX6_height 6 = .ok (.iload_n 1, 1) := by decide +kernel
theorem dX6_height_7 : decode cX6_height 7 = .ok (.iconst 0, 1) := by decide +kernel
theorem dX6_height_8 : decode cX6_height 8 = .ok (.invokestatic 44, 3) := by decide +kernel
theorem dX6_height_11 : decode cX6_height 11 = .ok (.idiv, 1) := by decide +kernel
theorem dX6_height_12 : decode cX6_height 12 = .ok (.ireturn, 1) := by decide +kernel
set_option maxRecDepth 20000 in
theorem ggX6_allGet_X6_gets : GoodIn wsX6_allGet wsX6_gets := goodIn_r _ [4, 5, 6, 3, 7, 8, 9, 10, 11, 12, 13] (by decide +kernel) (by decide +kernel)
set_option maxRecDepth 20000 in
theorem gX6_allGet_X6_gets : GoodIn wsX6_allGet (va_wsS RX6 55 yX6_gets wsX6_gets) := goodIn_app (goodIn_of _ (by decide +kernel)) ggX6_allGet_X6_gets
theorem dX6_allGet_0 : decode cX6_allGet 0 = .ok (.iconst 0, 1) := by decide +kernel
theorem dX6_allGet_1 : decode cX6_allGet 1 = .ok (.istore_n 1, 1) := by decide +kernel
theorem dX6_allGet_2 : decode cX6_allGet 2 = .ok (.iconst 0, 1) := by decide +kernel
theorem dX6_allGet_3 : decode cX6_allGet 3 = .ok (.istore_n 2, 1) := by decide +kernel
theorem dX6_allGet_4 : decode cX6_allGet 4 = .ok (.iload_n 2, 1) := by decide +kernel
theorem dX6_allGet_5 : decode cX6_allGet 5 = .ok (.bipush 8, 2) := by decide +kernel
theorem dX6_allGet_7 : decode cX6_allGet 7 = .ok (.if_icmp .ge 17, 3) := by decide +kernel
theorem dX6_allGet_10 : decode cX6_allGet 10 = .ok (.iload_n 1, 1) := by decide +kernel
theorem dX6_allGet_11 : decode cX6_allGet 11 = .ok (.aload_n 0, 1) := by decide +kernel
theorem dX6_allGet_12 : decode cX6_allGet 12 = .ok (.iload_n 2, 1) := by decide +kernel
theorem dX6_allGet_13 : decode cX6_allGet 13 = .ok (.invokestatic 55, 3) := by decide +kernel
theorem dX6_allGet_16 : decode cX6_allGet 16 = .ok (.iadd, 1) := by decide +kernel
theorem dX6_allGet_17 : decode cX6_allGet 17 = .ok (.istore_n 1, 1) := by decide +kernel
theorem dX6_allGet_18 : decode cX6_allGet 18 = .ok (.iinc 2 1, 3) := by decide +kernel
theorem dX6_allGet_21 : decode cX6_allGet 21 = .ok (.goto (-17), 3) := by decide +kernel
theorem dX6_allGet_24 : decode cX6_allGet 24 = .ok (.iload_n 1, 1) := by decide +kernel
theorem dX6_allGet_25 : decode cX6_allGet 25 = .ok (.ireturn, 1) := by decide +kernel
theorem dX6_goesOut_0 : decode cX6_goesOut 0 = .ok (.aload_n 0, 1) := by decide +kernel
theorem dX6_goesOut_1 : decode cX6_goesOut 1 = .ok (.bipush 8, 2) := by decide +kernel
theorem dX6_goesOut_3 : decode cX6_goesOut 3 = .ok (.dup2, 1) := by decide +kernel
theorem dX6_goesOut_4 : decode cX6_goesOut 4 = .ok (.iaload, 1) := by decide +kernel
theorem dX6_goesOut_5 : decode cX6_goesOut 5 = .ok (.iconst 1, 1) := by decide +kernel
theorem dX6_goesOut_6 : decode cX6_goesOut 6 = .ok (.isub, 1) := by decide +kernel
theorem dX6_goesOut_7 : decode cX6_goesOut 7 = .ok (.iastore, 1) := by decide +kernel
theorem dX6_goesOut_8 : decode cX6_goesOut 8 = .ok (.bipush 54, 2) := by decide +kernel
theorem dX6_goesOut_10 : decode cX6_goesOut 10 = .ok (.iconst 4, 1) := by decide +kernel
theorem dX6_goesOut_11 : decode cX6_goesOut 11 = .ok (.iload_n 1, 1) := by decide +kernel
theorem dX6_goesOut_12 : decode cX6_goesOut 12 = .ok (.imul, 1) := by decide +kernel
theorem dX6_goesOut_13 : decode cX6_goesOut 13 = .ok (.iadd, 1) := by decide +kernel
theorem dX6_goesOut_14 : decode cX6_goesOut 14 = .ok (.istore_n 2, 1) := by decide +kernel
theorem dX6_goesOut_15 : decode cX6_goesOut 15 = .ok (.iload_n 2, 1) := by decide +kernel
theorem dX6_goesOut_16 : decode cX6_goesOut 16 = .ok (.bipush 54, 2) := by decide +kernel
theorem dX6_goesOut_18 : decode cX6_goesOut 18 = .ok (.iconst 4, 1) := by decide +kernel
theorem dX6_goesOut_19 : decode cX6_goesOut 19 = .ok (.aload_n 0, 1) := by decide +kernel
theorem dX6_goesOut_20 : decode cX6_goesOut 20 = .ok (.bipush 8, 2) := by decide +kernel
theorem dX6_goesOut_22 : decode cX6_goesOut 22 = .ok (.iaload, 1) := by decide +kernel
theorem dX6_goesOut_23 : decode cX6_goesOut 23 = .ok (.imul, 1) := by decide +kernel
theorem dX6_goesOut_24 : decode cX6_goesOut 24 = .ok (.iadd, 1) := by decide +kernel
theorem dX6_goesOut_25 : decode cX6_goesOut 25 = .ok (.if_icmp .ge 17, 3) := by decide +kernel
theorem dX6_goesOut_28 : decode cX6_goesOut 28 = .ok (.aload_n 0, 1) := by decide +kernel
theorem dX6_goesOut_29 : decode cX6_goesOut 29 = .ok (.iload_n 2, 1) := by decide +kernel
theorem dX6_goesOut_30 : decode cX6_goesOut 30 = .ok (.aload_n 0, 1) := by decide +kernel
theorem dX6_goesOut_31 : decode cX6_goesOut 31 = .ok (.iload_n 2, 1) := by decide +kernel
theorem dX6_goesOut_32 : decode cX6_goesOut 32 = .ok (.iconst 4, 1) := by decide +kernel
theorem dX6_goesOut_33 : decode cX6_goesOut 33 = .ok (.iadd, 1) := by decide +kernel
theorem dX6_goesOut_34 : decode cX6_goesOut 34 = .ok (.iaload, 1) := by decide +kernel
theorem dX6_goesOut_35 : decode cX6_goesOut 35 = .ok (.iastore, 1) := by decide +kernel
theorem dX6_goesOut_36 : decode cX6_goesOut 36 = .ok (.iinc 2 1, 3) := by decide +kernel
theorem dX6_goesOut_39 : decode cX6_goesOut 39 = .ok (.goto (-24), 3) := by decide +kernel
theorem dX6_goesOut_42 : decode cX6_goesOut 42 = .ok (.return_, 1) := by decide +kernel
set_option maxRecDepth 20000 in
theorem ggX6_tick_X6_by : GoodIn wsX6_tick wsX6_by := goodIn_r _ [6] (by decide +kernel) (by decide +kernel)
set_option maxRecDepth 20000 in
theorem gX6_tick_X6_by : GoodIn wsX6_tick (va_wsS RX6 58 yX6_by wsX6_by) := goodIn_app (goodIn_of _ (by decide +kernel)) ggX6_tick_X6_by
set_option maxRecDepth 20000 in
theorem ggX6_tick_X6_goesOut : GoodIn wsX6_tick wsX6_goesOut := goodIn_r _ [9] (by decide +kernel) (by decide +kernel)
set_option maxRecDepth 20000 in
theorem gX6_tick_X6_goesOut : GoodIn wsX6_tick (va_wsS RX6 61 yX6_goesOut wsX6_goesOut) := goodIn_app (goodIn_of _ (by decide +kernel)) ggX6_tick_X6_goesOut
set_option maxRecDepth 20000 in
theorem ggX6_tick_X6_of : GoodIn wsX6_tick wsX6_of := goodIn_r _ [12] (by decide +kernel) (by decide +kernel)
set_option maxRecDepth 20000 in
theorem gX6_tick_X6_of : GoodIn wsX6_tick (va_wsS RX6 44 yX6_of wsX6_of) := goodIn_app (goodIn_of _ (by decide +kernel)) ggX6_tick_X6_of
set_option maxRecDepth 20000 in
theorem ggX6_tick_X6_allGet : GoodIn wsX6_tick wsX6_allGet := goodIn_r _ [15, 16, 17, 5, 18, 19, 20, 21, 22, 23, 24, 10, 11, 12] (by decide +kernel) (by decide +kernel)
set_option maxRecDepth 20000 in
theorem gX6_tick_X6_allGet : GoodIn wsX6_tick (va_wsS RX6 71 yX6_allGet wsX6_allGet) := goodIn_app (goodIn_of _ (by decide +kernel)) ggX6_tick_X6_allGet
set_option maxRecDepth 20000 in
theorem ggX6_tick_X6_height : GoodIn wsX6_tick wsX6_height := goodIn_r _ [27, 16, 17, 5, 18, 19, 20, 21, 22, 23, 24, 10, 11, 12] (by decide +kernel) (by decide +kernel)
set_option maxRecDepth 20000 in
theorem gX6_tick_X6_height : GoodIn wsX6_tick (va_wsS RX6 75 yX6_height wsX6_height) := goodIn_app (goodIn_of _ (by decide +kernel)) ggX6_tick_X6_height
theorem dX6_tick_0 : decode cX6_tick 0 = .ok (.aload_n 1, 1) := by decide +kernel
theorem dX6_tick_1 : decode cX6_tick 1 = .ok (.bipush 8, 2) := by decide +kernel
theorem dX6_tick_3 : decode cX6_tick 3 = .ok (.iaload, 1) := by decide +kernel
theorem dX6_tick_4 : decode cX6_tick 4 = .ok (.ifCond .le 53, 3) := by decide +kernel
theorem dX6_tick_7 : decode cX6_tick 7 = .ok (.aload_n 1, 1) := by decide +kernel
theorem dX6_tick_8 : decode cX6_tick 8 = .ok (.iconst 0, 1) := by decide +kernel
theorem dX6_tick_9 : decode cX6_tick 9 = .ok (.iconst 1, 1) := by decide +kernel
theorem dX6_tick_10 : decode cX6_tick 10 = .ok (.invokestatic 58, 3) := by decide +kernel
theorem dX6_tick_13 : decode cX6_tick 13 = .ok (.aload_n 1, 1) := by decide +kernel
theorem dX6_tick_14 : decode cX6_tick 14 = .ok (.bipush 7, 2) := by decide +kernel
theorem dX6_tick_16 : decode cX6_tick 16 = .ok (.iaload, 1) := by decide +kernel
theorem dX6_tick_17 : decode cX6_tick 17 = .ok (.if_icmp .ne 40, 3) := by decide +kernel
theorem dX6_tick_20 : decode cX6_tick 20 = .ok (.aload_n 1, 1) := by decide +kernel
theorem dX6_tick_21 : decode cX6_tick 21 = .ok (.bipush 14, 2) := by decide +kernel
theorem dX6_tick_23 : decode cX6_tick 23 = .ok (.iconst 5, 1) := by decide +kernel
theorem dX6_tick_24 : decode cX6_tick 24 = .ok (.aload_n 1, 1) := by decide +kernel
theorem dX6_tick_25 : decode cX6_tick 25 = .ok (.iconst 0, 1) := by decide +kernel
theorem dX6_tick_26 : decode cX6_tick 26 = .ok (.iconst 2, 1) := by decide +kernel
theorem dX6_tick_27 : decode cX6_tick 27 = .ok (.invokestatic 58, 3) := by decide +kernel
theorem dX6_tick_30 : decode cX6_tick 30 = .ok (.imul, 1) := by decide +kernel
theorem dX6_tick_31 : decode cX6_tick 31 = .ok (.iadd, 1) := by decide +kernel
theorem dX6_tick_32 : decode cX6_tick 32 = .ok (.iconst 3, 1) := by decide +kernel
theorem dX6_tick_33 : decode cX6_tick 33 = .ok (.iadd, 1) := by decide +kernel
theorem dX6_tick_34 : decode cX6_tick 34 = .ok (.aload_n 1, 1) := by decide +kernel
theorem dX6_tick_35 : decode cX6_tick 35 = .ok (.iconst 0, 1) := by decide +kernel
theorem dX6_tick_36 : decode cX6_tick 36 = .ok (.iconst 3, 1) := by decide +kernel
theorem dX6_tick_37 : decode cX6_tick 37 = .ok (.invokestatic 58, 3) := by decide +kernel
theorem dX6_tick_40 : decode cX6_tick 40 = .ok (.iastore, 1) := by decide +kernel
theorem dX6_tick_41 : decode cX6_tick 41 = .ok (.aload_n 1, 1) := by decide +kernel
theorem dX6_tick_42 : decode cX6_tick 42 = .ok (.iconst 0, 1) := by decide +kernel
theorem dX6_tick_43 : decode cX6_tick 43 = .ok (.invokestatic 61, 3) := by decide +kernel
theorem dX6_tick_46 : decode cX6_tick 46 = .ok (.aload_n 1, 1) := by decide +kernel
theorem dX6_tick_47 : decode cX6_tick 47 = .ok (.bipush 12, 2) := by decide +kernel
theorem dX6_tick_49 : decode cX6_tick 49 = .ok (.dup2, 1) := by decide +kernel
theorem dX6_tick_50 : decode cX6_tick 50 = .ok (.iaload, 1) := by decide +kernel
theorem dX6_tick_51 : decode cX6_tick 51 = .ok (.iconst 1, 1) := by decide +kernel
theorem dX6_tick_52 : decode cX6_tick 52 = .ok (.iadd, 1) := by decide +kernel
theorem dX6_tick_53 : decode cX6_tick 53 = .ok (.iastore, 1) := by decide +kernel
theorem dX6_tick_54 : decode cX6_tick 54 = .ok (.goto (-54), 3) := by decide +kernel
theorem dX6_tick_57 : decode cX6_tick 57 = .ok (.iconst 0, 1) := by decide +kernel
theorem dX6_tick_58 : decode cX6_tick 58 = .ok (.istore_n 2, 1) := by decide +kernel
theorem dX6_tick_59 : decode cX6_tick 59 = .ok (.iload_n 2, 1) := by decide +kernel
theorem dX6_tick_60 : decode cX6_tick 60 = .ok (.bipush 8, 2) := by decide +kernel
theorem dX6_tick_62 : decode cX6_tick 62 = .ok (.if_icmp .ge 65, 3) := by decide +kernel
theorem dX6_tick_65 : decode cX6_tick 65 = .ok (.aload_n 1, 1) := by decide +kernel
theorem dX6_tick_66 : decode cX6_tick 66 = .ok (.iload_n 2, 1) := by decide +kernel
theorem dX6_tick_67 : decode cX6_tick 67 = .ok (.iconst 3, 1) := by decide +kernel
theorem dX6_tick_68 : decode cX6_tick 68 = .ok (.invokestatic 44, 3) := by decide +kernel
theorem dX6_tick_71 : decode cX6_tick 71 = .ok (.aload_n 1, 1) := by decide +kernel
theorem dX6_tick_72 : decode cX6_tick 72 = .ok (.iload_n 2, 1) := by decide +kernel
theorem dX6_tick_73 : decode cX6_tick 73 = .ok (.iconst 2, 1) := by decide +kernel
theorem dX6_tick_74 : decode cX6_tick 74 = .ok (.invokestatic 44, 3) := by decide +kernel
theorem dX6_tick_77 : decode cX6_tick 77 = .ok (.isub, 1) := by decide +kernel
theorem dX6_tick_78 : decode cX6_tick 78 = .ok (.istore_n 3, 1) := by decide +kernel
theorem dX6_tick_79 : decode cX6_tick 79 = .ok (.aload_n 1, 1) := by decide +kernel
theorem dX6_tick_80 : decode cX6_tick 80 = .ok (.bipush 14, 2) := by decide +kernel
theorem dX6_tick_82 : decode cX6_tick 82 = .ok (.iconst 5, 1) := by decide +kernel
theorem dX6_tick_83 : decode cX6_tick 83 = .ok (.iload_n 2, 1) := by decide +kernel
theorem dX6_tick_84 : decode cX6_tick 84 = .ok (.imul, 1) := by decide +kernel
theorem dX6_tick_85 : decode cX6_tick 85 = .ok (.iadd, 1) := by decide +kernel
theorem dX6_tick_86 : decode cX6_tick 86 = .ok (.iconst 2, 1) := by decide +kernel
theorem dX6_tick_87 : decode cX6_tick 87 = .ok (.iadd, 1) := by decide +kernel
theorem dX6_tick_88 : decode cX6_tick 88 = .ok (.dup2, 1) := by decide +kernel
theorem dX6_tick_89 : decode cX6_tick 89 = .ok (.iaload, 1) := by decide +kernel
theorem dX6_tick_90 : decode cX6_tick 90 = .ok (.iload_n 3, 1) := by decide +kernel
theorem dX6_tick_91 : decode cX6_tick 91 = .ok (.aload_n 1, 1) := by decide +kernel
theorem dX6_tick_92 : decode cX6_tick 92 = .ok (.iconst 2, 1) := by decide +kernel
theorem dX6_tick_93 : decode cX6_tick 93 = .ok (.iaload, 1) := by decide +kernel
theorem dX6_tick_94 : decode cX6_tick 94 = .ok (.if_icmp .le 9, 3) := by decide +kernel
theorem dX6_tick_97 : decode cX6_tick 97 = .ok (.aload_n 1, 1) := by decide +kernel
theorem dX6_tick_98 : decode cX6_tick 98 = .ok (.iconst 2, 1) := by decide +kernel
theorem dX6_tick_99 : decode cX6_tick 99 = .ok (.iaload, 1) := by decide +kernel
theorem dX6_tick_100 : decode cX6_tick 100 = .ok (.goto 19, 3) := by decide +kernel
theorem dX6_tick_103 : decode cX6_tick 103 = .ok (.iload_n 3, 1) := by decide +kernel
theorem dX6_tick_104 : decode cX6_tick 104 = .ok (.aload_n 1, 1) := by decide +kernel
theorem dX6_tick_105 : decode cX6_tick 105 = .ok (.iconst 2, 1) := by decide +kernel
theorem dX6_tick_106 : decode cX6_tick 106 = .ok (.iaload, 1) := by decide +kernel
theorem dX6_tick_107 : decode cX6_tick 107 = .ok (.ineg, 1) := by decide +kernel
theorem dX6_tick_108 : decode cX6_tick 108 = .ok (.if_icmp .ge 10, 3) := by decide +kernel
theorem dX6_tick_111 : decode cX6_tick 111 = .ok (.aload_n 1, 1) := by decide +kernel
theorem dX6_tick_112 : decode cX6_tick 112 = .ok (.iconst 2, 1) := by decide +kernel
theorem dX6_tick_113 : decode cX6_tick 113 = .ok (.iaload, 1) := by decide +kernel
theorem dX6_tick_114 : decode cX6_tick 114 = .ok (.ineg, 1) := by decide +kernel
theorem dX6_tick_115 : decode cX6_tick 115 = .ok (.goto 4, 3) := by decide +kernel
theorem dX6_tick_118 : decode cX6_tick 118 = .ok (.iload_n 3, 1) := by decide +kernel
theorem dX6_tick_119 : decode cX6_tick 119 = .ok (.iadd, 1) := by decide +kernel
theorem dX6_tick_120 : decode cX6_tick 120 = .ok (.iastore, 1) := by decide +kernel
theorem dX6_tick_121 : decode cX6_tick 121 = .ok (.iinc 2 1, 3) := by decide +kernel
theorem dX6_tick_124 : decode cX6_tick 124 = .ok (.goto (-65), 3) := by decide +kernel
theorem dX6_tick_127 : decode cX6_tick 127 = .ok (.aload_n 0, 1) := by decide +kernel
theorem dX6_tick_128 : decode cX6_tick 128 = .ok (.iconst 0, 1) := by decide +kernel
theorem dX6_tick_129 : decode cX6_tick 129 = .ok (.putfield 65, 3) := by decide +kernel
theorem dX6_tick_132 : decode cX6_tick 132 = .ok (.aload_n 0, 1) := by decide +kernel
theorem dX6_tick_133 : decode cX6_tick 133 = .ok (.iconst 0, 1) := by decide +kernel
theorem dX6_tick_134 : decode cX6_tick 134 = .ok (.putfield 68, 3) := by decide +kernel
theorem dX6_tick_137 : decode cX6_tick 137 = .ok (.aload_n 1, 1) := by decide +kernel
theorem dX6_tick_138 : decode cX6_tick 138 = .ok (.invokestatic 71, 3) := by decide +kernel
theorem dX6_tick_141 : decode cX6_tick 141 = .ok (.istore_n 2, 1) := by decide +kernel
theorem dX6_tick_142 : decode cX6_tick 142 = .ok (.aload_n 1, 1) := by decide +kernel
theorem dX6_tick_143 : decode cX6_tick 143 = .ok (.bipush 6, 2) := by decide +kernel
theorem dX6_tick_145 : decode cX6_tick 145 = .ok (.iaload, 1) := by decide +kernel
theorem dX6_tick_146 : decode cX6_tick 146 = .ok (.iload_n 2, 1) := by decide +kernel
theorem dX6_tick_147 : decode cX6_tick 147 = .ok (.if_icmp .ge 14, 3) := by decide +kernel
theorem dX6_tick_150 : decode cX6_tick 150 = .ok (.aload_n 1, 1) := by decide +kernel
theorem dX6_tick_151 : decode cX6_tick 151 = .ok (.bipush 11, 2) := by decide +kernel
theorem dX6_tick_153 : decode cX6_tick 153 = .ok (.dup2, 1) := by decide +kernel
theorem dX6_tick_154 : decode cX6_tick 154 = .ok (.iaload, 1) := by decide +kernel
theorem dX6_tick_155 : decode cX6_tick 155 = .ok (.iconst 1, 1) := by decide +kernel
theorem dX6_tick_156 : decode cX6_tick 156 = .ok (.iadd, 1) := by decide +kernel
theorem dX6_tick_157 : decode cX6_tick 157 = .ok (.iastore, 1) := by decide +kernel
theorem dX6_tick_158 : decode cX6_tick 158 = .ok (.goto 136, 3) := by decide +kernel
theorem dX6_tick_161 : decode cX6_tick 161 = .ok (.iload_n 2, 1) := by decide +kernel
theorem dX6_tick_162 : decode cX6_tick 162 = .ok (.aload_n 1, 1) := by decide +kernel
theorem dX6_tick_163 : decode cX6_tick 163 = .ok (.iconst 1, 1) := by decide +kernel
theorem dX6_tick_164 : decode cX6_tick 164 = .ok (.iaload, 1) := by decide +kernel
theorem dX6_tick_165 : decode cX6_tick 165 = .ok (.imul, 1) := by decide +kernel
theorem dX6_tick_166 : decode cX6_tick 166 = .ok (.bipush 100, 2) := by decide +kernel
theorem dX6_tick_168 : decode cX6_tick 168 = .ok (.idiv, 1) := by decide +kernel
theorem dX6_tick_169 : decode cX6_tick 169 = .ok (.iload_n 2, 1) := by decide +kernel
theorem dX6_tick_170 : decode cX6_tick 170 = .ok (.aload_n 1, 1) := by decide +kernel
theorem dX6_tick_171 : decode cX6_tick 171 = .ok (.iconst 5, 1) := by decide +kernel
theorem dX6_tick_172 : decode cX6_tick 172 = .ok (.iaload, 1) := by decide +kernel
theorem dX6_tick_173 : decode cX6_tick 173 = .ok (.imul, 1) := by decide +kernel
theorem dX6_tick_174 : decode cX6_tick 174 = .ok (.bipush 100, 2) := by decide +kernel
theorem dX6_tick_176 : decode cX6_tick 176 = .ok (.idiv, 1) := by decide +kernel
theorem dX6_tick_177 : decode cX6_tick 177 = .ok (.iadd, 1) := by decide +kernel
theorem dX6_tick_178 : decode cX6_tick 178 = .ok (.istore_n 3, 1) := by decide +kernel
theorem dX6_tick_179 : decode cX6_tick 179 = .ok (.aload_n 1, 1) := by decide +kernel
theorem dX6_tick_180 : decode cX6_tick 180 = .ok (.bipush 6, 2) := by decide +kernel
theorem dX6_tick_182 : decode cX6_tick 182 = .ok (.dup2, 1) := by decide +kernel
theorem dX6_tick_183 : decode cX6_tick 183 = .ok (.iaload, 1) := by decide +kernel
theorem dX6_tick_184 : decode cX6_tick 184 = .ok (.iload_n 3, 1) := by decide +kernel
theorem dX6_tick_185 : decode cX6_tick 185 = .ok (.isub, 1) := by decide +kernel
theorem dX6_tick_186 : decode cX6_tick 186 = .ok (.iastore, 1) := by decide +kernel
theorem dX6_tick_187 : decode cX6_tick 187 = .ok (.aload_n 1, 1) := by decide +kernel
theorem dX6_tick_188 : decode cX6_tick 188 = .ok (.bipush 10, 2) := by decide +kernel
theorem dX6_tick_190 : decode cX6_tick 190 = .ok (.dup2, 1) := by decide +kernel
theorem dX6_tick_191 : decode cX6_tick 191 = .ok (.iaload, 1) := by decide +kernel
theorem dX6_tick_192 : decode cX6_tick 192 = .ok (.iload_n 3, 1) := by decide +kernel
theorem dX6_tick_193 : decode cX6_tick 193 = .ok (.iadd, 1) := by decide +kernel
theorem dX6_tick_194 : decode cX6_tick 194 = .ok (.iastore, 1) := by decide +kernel
theorem dX6_tick_195 : decode cX6_tick 195 = .ok (.iconst 0, 1) := by decide +kernel
theorem dX6_tick_196 : decode cX6_tick 196 = .ok (.istore 4, 2) := by decide +kernel
theorem dX6_tick_198 : decode cX6_tick 198 = .ok (.iload 4, 2) := by decide +kernel
theorem dX6_tick_200 : decode cX6_tick 200 = .ok (.bipush 8, 2) := by decide +kernel
theorem dX6_tick_202 : decode cX6_tick 202 = .ok (.if_icmp .ge 92, 3) := by decide +kernel
theorem dX6_tick_205 : decode cX6_tick 205 = .ok (.aload_n 1, 1) := by decide +kernel
theorem dX6_tick_206 : decode cX6_tick 206 = .ok (.iload 4, 2) := by decide +kernel
theorem dX6_tick_208 : decode cX6_tick 208 = .ok (.invokestatic 75, 3) := by decide +kernel
theorem dX6_tick_211 : decode cX6_tick 211 = .ok (.istore 5, 2) := by decide +kernel
theorem dX6_tick_213 : decode cX6_tick 213 = .ok (.aload_n 0, 1) := by decide +kernel
theorem dX6_tick_214 : decode cX6_tick 214 = .ok (.iload 5, 2) := by decide +kernel
theorem dX6_tick_216 : decode cX6_tick 216 = .ok (.aload_n 0, 1) := by decide +kernel
theorem dX6_tick_217 : decode cX6_tick 217 = .ok (.getfield 65, 3) := by decide +kernel
theorem dX6_tick_220 : decode cX6_tick 220 = .ok (.if_icmp .le 8, 3) := by decide +kernel
theorem dX6_tick_223 : decode cX6_tick 223 = .ok (.iload 5, 2) := by decide +kernel
theorem dX6_tick_225 : decode cX6_tick 225 = .ok (.goto 7, 3) := by decide +kernel
theorem dX6_tick_228 : decode cX6_tick 228 = .ok (.aload_n 0, 1) := by decide +kernel
theorem dX6_tick_229 : decode cX6_tick 229 = .ok (.getfield 65, 3) := by decide +kernel
theorem dX6_tick_232 : decode cX6_tick 232 = .ok (.putfield 65, 3) := by decide +kernel
theorem dX6_tick_235 : decode cX6_tick 235 = .ok (.aload_n 1, 1) := by decide +kernel
theorem dX6_tick_236 : decode cX6_tick 236 = .ok (.bipush 14, 2) := by decide +kernel
theorem dX6_tick_238 : decode cX6_tick 238 = .ok (.iconst 5, 1) := by decide +kernel
theorem dX6_tick_239 : decode cX6_tick 239 = .ok (.iload 4, 2) := by decide +kernel
theorem dX6_tick_241 : decode cX6_tick 241 = .ok (.imul, 1) := by decide +kernel
theorem dX6_tick_242 : decode cX6_tick 242 = .ok (.iadd, 1) := by decide +kernel
theorem dX6_tick_243 : decode cX6_tick 243 = .ok (.iconst 4, 1) := by decide +kernel
theorem dX6_tick_244 : decode cX6_tick 244 = .ok (.iadd, 1) := by decide +kernel
theorem dX6_tick_245 : decode cX6_tick 245 = .ok (.dup2, 1) := by decide +kernel
theorem dX6_tick_246 : decode cX6_tick 246 = .ok (.iaload, 1) := by decide +kernel
theorem dX6_tick_247 : decode cX6_tick 247 = .ok (.iload 5, 2) := by decide +kernel
theorem dX6_tick_249 : decode cX6_tick 249 = .ok (.ifCond .le 7, 3) := by decide +kernel
theorem dX6_tick_252 : decode cX6_tick 252 = .ok (.iconst 1, 1) := by decide +kernel
theorem dX6_tick_253 : decode cX6_tick 253 = .ok (.goto 4, 3) := by decide +kernel
theorem dX6_tick_256 : decode cX6_tick 256 = .ok (.iconst 0, 1) := by decide +kernel
theorem dX6_tick_257 : decode cX6_tick 257 = .ok (.iadd, 1) := by decide +kernel
theorem dX6_tick_258 : decode cX6_tick 258 = .ok (.iastore, 1) := by decide +kernel
theorem dX6_tick_259 : decode cX6_tick 259 = .ok (.aload_n 0, 1) := by decide +kernel
theorem dX6_tick_260 : decode cX6_tick 260 = .ok (.dup, 1) := by decide +kernel
theorem dX6_tick_261 : decode cX6_tick 261 = .ok (.getfield 68, 3) := by decide +kernel
theorem dX6_tick_264 : decode cX6_tick 264 = .ok (.iload 5, 2) := by decide +kernel
theorem dX6_tick_266 : decode cX6_tick 266 = .ok (.ifCond .le 17, 3) := by decide +kernel
theorem dX6_tick_269 : decode cX6_tick 269 = .ok (.aload_n 1, 1) := by decide +kernel
theorem dX6_tick_270 : decode cX6_tick 270 = .ok (.iload 4, 2) := by decide +kernel
theorem dX6_tick_272 : decode cX6_tick 272 = .ok (.iconst 1, 1) := by decide +kernel
theorem dX6_tick_273 : decode cX6_tick 273 = .ok (.invokestatic 44, 3) := by decide +kernel
theorem dX6_tick_276 : decode cX6_tick 276 = .ok (.ifCond .ne 7, 3) := by decide +kernel
theorem dX6_tick_279 : decode cX6_tick 279 = .ok (.iconst 1, 1) := by decide +kernel
theorem dX6_tick_280 : decode cX6_tick 280 = .ok (.goto 4, 3) := by decide +kernel
theorem dX6_tick_283 : decode cX6_tick 283 = .ok (.iconst 0, 1) := by decide +kernel
theorem dX6_tick_284 : decode cX6_tick 284 = .ok (.iadd, 1) := by decide +kernel
theorem dX6_tick_285 : decode cX6_tick 285 = .ok (.putfield 68, 3) := by decide +kernel
theorem dX6_tick_288 : decode cX6_tick 288 = .ok (.iinc 4 1, 3) := by decide +kernel
theorem dX6_tick_291 : decode cX6_tick 291 = .ok (.goto (-93), 3) := by decide +kernel
theorem dX6_tick_294 : decode cX6_tick 294 = .ok (.aload_n 1, 1) := by decide +kernel
theorem dX6_tick_295 : decode cX6_tick 295 = .ok (.bipush 13, 2) := by decide +kernel
theorem dX6_tick_297 : decode cX6_tick 297 = .ok (.aload_n 0, 1) := by decide +kernel
theorem dX6_tick_298 : decode cX6_tick 298 = .ok (.getfield 65, 3) := by decide +kernel
theorem dX6_tick_301 : decode cX6_tick 301 = .ok (.aload_n 1, 1) := by decide +kernel
theorem dX6_tick_302 : decode cX6_tick 302 = .ok (.bipush 13, 2) := by decide +kernel
theorem dX6_tick_304 : decode cX6_tick 304 = .ok (.iaload, 1) := by decide +kernel
theorem dX6_tick_305 : decode cX6_tick 305 = .ok (.if_icmp .le 10, 3) := by decide +kernel
theorem dX6_tick_308 : decode cX6_tick 308 = .ok (.aload_n 0, 1) := by decide +kernel
theorem dX6_tick_309 : decode cX6_tick 309 = .ok (.getfield 65, 3) := by decide +kernel
theorem dX6_tick_312 : decode cX6_tick 312 = .ok (.goto 7, 3) := by decide +kernel
theorem dX6_tick_315 : decode cX6_tick 315 = .ok (.aload_n 1, 1) := by decide +kernel
theorem dX6_tick_316 : decode cX6_tick 316 = .ok (.bipush 13, 2) := by decide +kernel
theorem dX6_tick_318 : decode cX6_tick 318 = .ok (.iaload, 1) := by decide +kernel
theorem dX6_tick_319 : decode cX6_tick 319 = .ok (.iastore, 1) := by decide +kernel
theorem dX6_tick_320 : decode cX6_tick 320 = .ok (.aload_n 1, 1) := by decide +kernel
theorem dX6_tick_321 : decode cX6_tick 321 = .ok (.bipush 7, 2) := by decide +kernel
theorem dX6_tick_323 : decode cX6_tick 323 = .ok (.dup2, 1) := by decide +kernel
theorem dX6_tick_324 : decode cX6_tick 324 = .ok (.iaload, 1) := by decide +kernel
theorem dX6_tick_325 : decode cX6_tick 325 = .ok (.iconst 1, 1) := by decide +kernel
theorem dX6_tick_326 : decode cX6_tick 326 = .ok (.iadd, 1) := by decide +kernel
theorem dX6_tick_327 : decode cX6_tick 327 = .ok (.iastore, 1) := by decide +kernel
theorem dX6_tick_328 : decode cX6_tick 328 = .ok (.return_, 1) := by decide +kernel
theorem dX6_changes_0 : decode cX6_changes 0 = .ok (.aload_n 0, 1) := by decide +kernel
theorem dX6_changes_1 : decode cX6_changes 1 = .ok (.getfield 7, 3) := by decide +kernel
theorem dX6_changes_4 : decode cX6_changes 4 = .ok (.iload_n 1, 1) := by decide +kernel
theorem dX6_changes_5 : decode cX6_changes 5 = .ok (.iaload, 1) := by decide +kernel
theorem dX6_changes_6 : decode cX6_changes 6 = .ok (.istore_n 3, 1) := by decide +kernel
theorem dX6_changes_7 : decode cX6_changes 7 = .ok (.aload_n 0, 1) := by decide +kernel
theorem dX6_changes_8 : decode cX6_changes 8 = .ok (.getfield 7, 3) := by decide +kernel
theorem dX6_changes_11 : decode cX6_changes 11 = .ok (.iload_n 1, 1) := by decide +kernel
theorem dX6_changes_12 : decode cX6_changes 12 = .ok (.iload_n 2, 1) := by decide +kernel
theorem dX6_changes_13 : decode cX6_changes 13 = .ok (.iastore, 1) := by decide +kernel
theorem dX6_changes_14 : decode cX6_changes 14 = .ok (.iload_n 3, 1) := by decide +kernel
theorem dX6_changes_15 : decode cX6_changes 15 = .ok (.ireturn, 1) := by decide +kernel
set_option maxRecDepth 20000 in
theorem ggX6_jet_X6_isJet : GoodIn wsX6_jet wsX6_isJet := goodIn_r _ [5, 6, 7, 4, 8] (by decide +kernel) (by decide +kernel)
set_option maxRecDepth 20000 in
theorem gX6_jet_X6_isJet : GoodIn wsX6_jet (va_wsS RX6 78 yX6_isJet wsX6_isJet) := goodIn_app (goodIn_of _ (by decide +kernel)) ggX6_jet_X6_isJet
set_option maxRecDepth 20000 in
theorem ggX6_jet_X6_fails : GoodIn wsX6_jet wsX6_fails := goodIn_r _ [12, 1, 27, 28, 29, 30, 31, 32, 33, 34, 35, 36, 37, 38, 39, 40] (by decide +kernel) (by decide +kernel)
set_option maxRecDepth 20000 in
theorem gX6_jet_X6_fails : GoodIn wsX6_jet (wsV RX6 40 RX6 yX6_fails wsX6_fails) := goodIn_app (goodIn_of _ (by decide +kernel)) ggX6_jet_X6_fails
set_option maxRecDepth 20000 in
theorem ggX6_jet_X6_in : GoodIn wsX6_jet wsX6_in := goodIn_r _ [8] (by decide +kernel) (by decide +kernel)
set_option maxRecDepth 20000 in
theorem gX6_jet_X6_in : GoodIn wsX6_jet (va_wsS RX6 29 yX6_in wsX6_in) := goodIn_app (goodIn_of _ (by decide +kernel)) ggX6_jet_X6_in
set_option maxRecDepth 20000 in
theorem ggX6_jet_X6_saves : GoodIn wsX6_jet wsX6_saves := goodIn_r _ [16, 17, 18, 19, 20, 21, 4, 22, 27, 28, 29, 30, 31, 32, 33, 34, 35, 36, 37, 38, 39, 40] (by decide +kernel) (by decide +kernel)
set_option maxRecDepth 20000 in
theorem gX6_jet_X6_saves : GoodIn wsX6_jet (wsV RX6 82 RX6 yX6_saves wsX6_saves) := goodIn_app (goodIn_of _ (by decide +kernel)) ggX6_jet_X6_saves
set_option maxRecDepth 20000 in
theorem ggX6_jet_X6_changes : GoodIn wsX6_jet wsX6_changes := goodIn_r _ [26, 19, 27, 28, 29, 30, 31, 32, 33, 34, 35, 36, 37, 38, 39, 40] (by decide +kernel) (by decide +kernel)
set_option maxRecDepth 20000 in
theorem gX6_jet_X6_changes : GoodIn wsX6_jet (wsV RX6 85 RX6 yX6_changes wsX6_changes) := goodIn_app (goodIn_of _ (by decide +kernel)) ggX6_jet_X6_changes
theorem dX6_jet_0 : decode cX6_jet 0 = .ok (.aload_n 0, 1) := by decide +kernel
theorem dX6_jet_1 : decode cX6_jet 1 = .ok (.iconst 0, 1) := by decide +kernel
theorem dX6_jet_2 : decode cX6_jet 2 = .ok (.putfield 25, 3) := by decide +kernel
theorem dX6_jet_5 : decode cX6_jet 5 = .ok (.iload_n 1, 1) := by decide +kernel
theorem dX6_jet_6 : decode cX6_jet 6 = .ok (.invokestatic 78, 3) := by decide +kernel
theorem dX6_jet_9 : decode cX6_jet 9 = .ok (.ifCond .ne 9, 3) := by decide +kernel
theorem dX6_jet_12 : decode cX6_jet 12 = .ok (.aload_n 0, 1) := by decide +kernel
theorem dX6_jet_13 : decode cX6_jet 13 = .ok (.iconst 1, 1) := by decide +kernel
theorem dX6_jet_14 : decode cX6_jet 14 = .ok (.invokevirtual 40, 3) := by decide +kernel
theorem dX6_jet_17 : decode cX6_jet 17 = .ok (.ireturn, 1) := by decide +kernel
theorem dX6_jet_18 : decode cX6_jet 18 = .ok (.iload_n 2, 1) := by decide +kernel
theorem dX6_jet_19 : decode cX6_jet 19 = .ok (.iconst 1, 1) := by decide +kernel
theorem dX6_jet_20 : decode cX6_jet 20 = .ok (.bipush 20, 2) := by decide +kernel
theorem dX6_jet_22 : decode cX6_jet 22 = .ok (.invokestatic 29, 3) := by decide +kernel
theorem dX6_jet_25 : decode cX6_jet 25 = .ok (.ifCond .eq 12, 3) := by decide +kernel
theorem dX6_jet_28 : decode cX6_jet 28 = .ok (.iload_n 3, 1) := by decide +kernel
theorem dX6_jet_29 : decode cX6_jet 29 = .ok (.iconst 0, 1) := by decide +kernel
theorem dX6_jet_30 : decode cX6_jet 30 = .ok (.iconst 3, 1) := by decide +kernel
theorem dX6_jet_31 : decode cX6_jet 31 = .ok (.invokestatic 29, 3) := by decide +kernel
theorem dX6_jet_34 : decode cX6_jet 34 = .ok (.ifCond .ne 9, 3) := by decide +kernel
theorem dX6_jet_37 : decode cX6_jet 37 = .ok (.aload_n 0, 1) := by decide +kernel
theorem dX6_jet_38 : decode cX6_jet 38 = .ok (.iconst 2, 1) := by decide +kernel
theorem dX6_jet_39 : decode cX6_jet 39 = .ok (.invokevirtual 40, 3) := by decide +kernel
theorem dX6_jet_42 : decode cX6_jet 42 = .ok (.ireturn, 1) := by decide +kernel
theorem dX6_jet_43 : decode cX6_jet 43 = .ok (.aload_n 0, 1) := by decide +kernel
theorem dX6_jet_44 : decode cX6_jet 44 = .ok (.invokevirtual 82, 3) := by decide +kernel
theorem dX6_jet_47 : decode cX6_jet 47 = .ok (.aload_n 0, 1) := by decide +kernel
theorem dX6_jet_48 : decode cX6_jet 48 = .ok (.bipush 14, 2) := by decide +kernel
theorem dX6_jet_50 : decode cX6_jet 50 = .ok (.iconst 5, 1) := by decide +kernel
theorem dX6_jet_51 : decode cX6_jet 51 = .ok (.iload_n 1, 1) := by decide +kernel
theorem dX6_jet_52 : decode cX6_jet 52 = .ok (.imul, 1) := by decide +kernel
theorem dX6_jet_53 : decode cX6_jet 53 = .ok (.iadd, 1) := by decide +kernel
theorem dX6_jet_54 : decode cX6_jet 54 = .ok (.iconst 1, 1) := by decide +kernel
theorem dX6_jet_55 : decode cX6_jet 55 = .ok (.iadd, 1) := by decide +kernel
theorem dX6_jet_56 : decode cX6_jet 56 = .ok (.iload_n 3, 1) := by decide +kernel
theorem dX6_jet_57 : decode cX6_jet 57 = .ok (.invokevirtual 85, 3) := by decide +kernel
theorem dX6_jet_60 : decode cX6_jet 60 = .ok (.pop, 1) := by decide +kernel
theorem dX6_jet_61 : decode cX6_jet 61 = .ok (.aload_n 0, 1) := by decide +kernel
theorem dX6_jet_62 : decode cX6_jet 62 = .ok (.bipush 14, 2) := by decide +kernel
theorem dX6_jet_64 : decode cX6_jet 64 = .ok (.iconst 5, 1) := by decide +kernel
theorem dX6_jet_65 : decode cX6_jet 65 = .ok (.iload_n 1, 1) := by decide +kernel
theorem dX6_jet_66 : decode cX6_jet 66 = .ok (.imul, 1) := by decide +kernel
theorem dX6_jet_67 : decode cX6_jet 67 = .ok (.iadd, 1) := by decide +kernel
theorem dX6_jet_68 : decode cX6_jet 68 = .ok (.iload_n 2, 1) := by decide +kernel
theorem dX6_jet_69 : decode cX6_jet 69 = .ok (.invokevirtual 85, 3) := by decide +kernel
theorem dX6_jet_72 : decode cX6_jet 72 = .ok (.ireturn, 1) := by decide +kernel
set_option maxRecDepth 20000 in
theorem ggX6_aim_X6_isJet : GoodIn wsX6_aim wsX6_isJet := goodIn_r _ [5, 6, 7, 4, 8] (by decide +kernel) (by decide +kernel)
set_option maxRecDepth 20000 in
theorem gX6_aim_X6_isJet : GoodIn wsX6_aim (va_wsS RX6 78 yX6_isJet wsX6_isJet) := goodIn_app (goodIn_of _ (by decide +kernel)) ggX6_aim_X6_isJet
set_option maxRecDepth 20000 in
theorem ggX6_aim_X6_fails : GoodIn wsX6_aim wsX6_fails := goodIn_r _ [12, 1, 27, 28, 29, 30, 31, 32, 33, 34, 35, 36, 37, 38, 39, 40] (by decide +kernel) (by decide +kernel)
set_option maxRecDepth 20000 in
theorem gX6_aim_X6_fails : GoodIn wsX6_aim (wsV RX6 40 RX6 yX6_fails wsX6_fails) := goodIn_app (goodIn_of _ (by decide +kernel)) ggX6_aim_X6_fails
set_option maxRecDepth 20000 in
theorem ggX6_aim_X6_in : GoodIn wsX6_aim wsX6_in := goodIn_r _ [8] (by decide +kernel) (by decide +kernel)
set_option maxRecDepth 20000 in
theorem gX6_aim_X6_in : GoodIn wsX6_aim (va_wsS RX6 29 yX6_in wsX6_in) := goodIn_app (goodIn_of _ (by decide +kernel)) ggX6_aim_X6_in
set_option maxRecDepth 20000 in
theorem ggX6_aim_X6_saves : GoodIn wsX6_aim wsX6_saves := goodIn_r _ [16, 17, 18, 19, 20, 21, 4, 22, 27, 28, 29, 30, 31, 32, 33, 34, 35, 36, 37, 38, 39, 40] (by decide +kernel) (by decide +kernel)
set_option maxRecDepth 20000 in
theorem gX6_aim_X6_saves : GoodIn wsX6_aim (wsV RX6 82 RX6 yX6_saves wsX6_saves) := goodIn_app (goodIn_of _ (by decide +kernel)) ggX6_aim_X6_saves
set_option maxRecDepth 20000 in
theorem ggX6_aim_X6_changes : GoodIn wsX6_aim wsX6_changes := goodIn_r _ [26, 19, 27, 28, 29, 30, 31, 32, 33, 34, 35, 36, 37, 38, 39, 40] (by decide +kernel) (by decide +kernel)
set_option maxRecDepth 20000 in
theorem gX6_aim_X6_changes : GoodIn wsX6_aim (wsV RX6 85 RX6 yX6_changes wsX6_changes) := goodIn_app (goodIn_of _ (by decide +kernel)) ggX6_aim_X6_changes
theorem dX6_aim_0 : decode cX6_aim 0 = .ok (.aload_n 0, 1) := by decide +kernel
theorem dX6_aim_1 : decode cX6_aim 1 = .ok (.iconst 0, 1) := by decide +kernel
theorem dX6_aim_2 : decode cX6_aim 2 = .ok (.putfield 25, 3) := by decide +kernel
theorem dX6_aim_5 : decode cX6_aim 5 = .ok (.iload_n 1, 1) := by decide +kernel
theorem dX6_aim_6 : decode cX6_aim 6 = .ok (.invokestatic 78, 3) := by decide +kernel
theorem dX6_aim_9 : decode cX6_aim 9 = .ok (.ifCond .ne 9, 3) := by decide +kernel
theorem dX6_aim_12 : decode cX6_aim 12 = .ok (.aload_n 0, 1) := by decide +kernel
theorem dX6_aim_13 : decode cX6_aim 13 = .ok (.iconst 1, 1) := by decide +kernel
theorem dX6_aim_14 : decode cX6_aim 14 = .ok (.invokevirtual 40, 3) := by decide +kernel
theorem dX6_aim_17 : decode cX6_aim 17 = .ok (.ireturn, 1) := by decide +kernel
theorem dX6_aim_18 : decode cX6_aim 18 = .ok (.iload_n 2, 1) := by decide +kernel
theorem dX6_aim_19 : decode cX6_aim 19 = .ok (.iconst 0, 1) := by decide +kernel
theorem dX6_aim_20 : decode cX6_aim 20 = .ok (.bipush 10, 2) := by decide +kernel
theorem dX6_aim_22 : decode cX6_aim 22 = .ok (.invokestatic 29, 3) := by decide +kernel
theorem dX6_aim_25 : decode cX6_aim 25 = .ok (.ifCond .ne 9, 3) := by decide +kernel
theorem dX6_aim_28 : decode cX6_aim 28 = .ok (.aload_n 0, 1) := by decide +kernel
theorem dX6_aim_29 : decode cX6_aim 29 = .ok (.iconst 2, 1) := by decide +kernel
theorem dX6_aim_30 : decode cX6_aim 30 = .ok (.invokevirtual 40, 3) := by decide +kernel
theorem dX6_aim_33 : decode cX6_aim 33 = .ok (.ireturn, 1) := by decide +kernel
theorem dX6_aim_34 : decode cX6_aim 34 = .ok (.aload_n 0, 1) := by decide +kernel
theorem dX6_aim_35 : decode cX6_aim 35 = .ok (.invokevirtual 82, 3) := by decide +kernel
theorem dX6_aim_38 : decode cX6_aim 38 = .ok (.aload_n 0, 1) := by decide +kernel
theorem dX6_aim_39 : decode cX6_aim 39 = .ok (.bipush 14, 2) := by decide +kernel
theorem dX6_aim_41 : decode cX6_aim 41 = .ok (.iconst 5, 1) := by decide +kernel
theorem dX6_aim_42 : decode cX6_aim 42 = .ok (.iload_n 1, 1) := by decide +kernel
theorem dX6_aim_43 : decode cX6_aim 43 = .ok (.imul, 1) := by decide +kernel
theorem dX6_aim_44 : decode cX6_aim 44 = .ok (.iadd, 1) := by decide +kernel
theorem dX6_aim_45 : decode cX6_aim 45 = .ok (.iconst 3, 1) := by decide +kernel
theorem dX6_aim_46 : decode cX6_aim 46 = .ok (.iadd, 1) := by decide +kernel
theorem dX6_aim_47 : decode cX6_aim 47 = .ok (.iload_n 2, 1) := by decide +kernel
theorem dX6_aim_48 : decode cX6_aim 48 = .ok (.invokevirtual 85, 3) := by decide +kernel
theorem dX6_aim_51 : decode cX6_aim 51 = .ok (.ireturn, 1) := by decide +kernel
set_option maxRecDepth 20000 in
theorem ggX6_pump_X6_in : GoodIn wsX6_pump wsX6_in := goodIn_r _ [5] (by decide +kernel) (by decide +kernel)
set_option maxRecDepth 20000 in
theorem gX6_pump_X6_in : GoodIn wsX6_pump (va_wsS RX6 29 yX6_in wsX6_in) := goodIn_app (goodIn_of _ (by decide +kernel)) ggX6_pump_X6_in
set_option maxRecDepth 20000 in
theorem ggX6_pump_X6_fails : GoodIn wsX6_pump wsX6_fails := goodIn_r _ [9, 1, 24, 25, 26, 27, 28, 29, 30, 31, 32, 33, 34, 35, 36, 37] (by decide +kernel) (by decide +kernel)
set_option maxRecDepth 20000 in
theorem gX6_pump_X6_fails : GoodIn wsX6_pump (wsV RX6 40 RX6 yX6_fails wsX6_fails) := goodIn_app (goodIn_of _ (by decide +kernel)) ggX6_pump_X6_fails
set_option maxRecDepth 20000 in
theorem ggX6_pump_X6_saves : GoodIn wsX6_pump wsX6_saves := goodIn_r _ [13, 14, 15, 16, 17, 18, 4, 19, 24, 25, 26, 27, 28, 29, 30, 31, 32, 33, 34, 35, 36, 37] (by decide +kernel) (by decide +kernel)
set_option maxRecDepth 20000 in
theorem gX6_pump_X6_saves : GoodIn wsX6_pump (wsV RX6 82 RX6 yX6_saves wsX6_saves) := goodIn_app (goodIn_of _ (by decide +kernel)) ggX6_pump_X6_saves
set_option maxRecDepth 20000 in
theorem ggX6_pump_X6_changes : GoodIn wsX6_pump wsX6_changes := goodIn_r _ [23, 16, 24, 25, 26, 27, 28, 29, 30, 31, 32, 33, 34, 35, 36, 37] (by decide +kernel) (by decide +kernel)
set_option maxRecDepth 20000 in
theorem gX6_pump_X6_changes : GoodIn wsX6_pump (wsV RX6 85 RX6 yX6_changes wsX6_changes) := goodIn_app (goodIn_of _ (by decide +kernel)) ggX6_pump_X6_changes
theorem dX6_pump_0 : decode cX6_pump 0 = .ok (.aload_n 0, 1) := by decide +kernel
theorem dX6_pump_1 : decode cX6_pump 1 = .ok (.iconst 0, 1) := by decide +kernel
theorem dX6_pump_2 : decode cX6_pump 2 = .ok (.putfield 25, 3) := by decide +kernel
theorem dX6_pump_5 : decode cX6_pump 5 = .ok (.iload_n 1, 1) := by decide +kernel
theorem dX6_pump_6 : decode cX6_pump 6 = .ok (.iconst 0, 1) := by decide +kernel
theorem dX6_pump_7 : decode cX6_pump 7 = .ok (.iconst 1, 1) := by decide +kernel
theorem dX6_pump_8 : decode cX6_pump 8 = .ok (.invokestatic 29, 3) := by decide +kernel
theorem dX6_pump_11 : decode cX6_pump 11 = .ok (.ifCond .ne 9, 3) := by decide +kernel
theorem dX6_pump_14 : decode cX6_pump 14 = .ok (.aload_n 0, 1) := by decide +kernel
theorem dX6_pump_15 : decode cX6_pump 15 = .ok (.iconst 1, 1) := by decide +kernel
theorem dX6_pump_16 : decode cX6_pump 16 = .ok (.invokevirtual 40, 3) := by decide +kernel
theorem dX6_pump_19 : decode cX6_pump 19 = .ok (.ireturn, 1) := by decide +kernel
theorem dX6_pump_20 : decode cX6_pump 20 = .ok (.iload_n 2, 1) := by decide +kernel
theorem dX6_pump_21 : decode cX6_pump 21 = .ok (.iconst 0, 1) := by decide +kernel
theorem dX6_pump_22 : decode cX6_pump 22 = .ok (.sipush 2000, 3) := by decide +kernel
theorem dX6_pump_25 : decode cX6_pump 25 = .ok (.invokestatic 29, 3) := by decide +kernel
theorem dX6_pump_28 : decode cX6_pump 28 = .ok (.ifCond .ne 9, 3) := by decide +kernel
theorem dX6_pump_31 : decode cX6_pump 31 = .ok (.aload_n 0, 1) := by decide +kernel
theorem dX6_pump_32 : decode cX6_pump 32 = .ok (.iconst 2, 1) := by decide +kernel
theorem dX6_pump_33 : decode cX6_pump 33 = .ok (.invokevirtual 40, 3) := by decide +kernel
theorem dX6_pump_36 : decode cX6_pump 36 = .ok (.ireturn, 1) := by decide +kernel
theorem dX6_pump_37 : decode cX6_pump 37 = .ok (.aload_n 0, 1) := by decide +kernel
theorem dX6_pump_38 : decode cX6_pump 38 = .ok (.invokevirtual 82, 3) := by decide +kernel
theorem dX6_pump_41 : decode cX6_pump 41 = .ok (.aload_n 0, 1) := by decide +kernel
theorem dX6_pump_42 : decode cX6_pump 42 = .ok (.iconst 3, 1) := by decide +kernel
theorem dX6_pump_43 : decode cX6_pump 43 = .ok (.iload_n 1, 1) := by decide +kernel
theorem dX6_pump_44 : decode cX6_pump 44 = .ok (.iadd, 1) := by decide +kernel
theorem dX6_pump_45 : decode cX6_pump 45 = .ok (.iload_n 2, 1) := by decide +kernel
theorem dX6_pump_46 : decode cX6_pump 46 = .ok (.invokevirtual 85, 3) := by decide +kernel
theorem dX6_pump_49 : decode cX6_pump 49 = .ok (.ireturn, 1) := by decide +kernel
set_option maxRecDepth 20000 in
theorem ggX6_wind_X6_in : GoodIn wsX6_wind wsX6_in := goodIn_r _ [5] (by decide +kernel) (by decide +kernel)
set_option maxRecDepth 20000 in
theorem gX6_wind_X6_in : GoodIn wsX6_wind (va_wsS RX6 29 yX6_in wsX6_in) := goodIn_app (goodIn_of _ (by decide +kernel)) ggX6_wind_X6_in
set_option maxRecDepth 20000 in
theorem ggX6_wind_X6_fails : GoodIn wsX6_wind wsX6_fails := goodIn_r _ [9, 1, 24, 25, 26, 27, 28, 29, 30, 31, 32, 33, 34, 35, 36, 37] (by decide +kernel) (by decide +kernel)
set_option maxRecDepth 20000 in
theorem gX6_wind_X6_fails : GoodIn wsX6_wind (wsV RX6 40 RX6 yX6_fails wsX6_fails) := goodIn_app (goodIn_of _ (by decide +kernel)) ggX6_wind_X6_fails
set_option maxRecDepth 20000 in
theorem ggX6_wind_X6_saves : GoodIn wsX6_wind wsX6_saves := goodIn_r _ [13, 14, 15, 16, 17, 18, 4, 19, 24, 25, 26, 27, 28, 29, 30, 31, 32, 33, 34, 35, 36, 37] (by decide +kernel) (by decide +kernel)
set_option maxRecDepth 20000 in
theorem gX6_wind_X6_saves : GoodIn wsX6_wind (wsV RX6 82 RX6 yX6_saves wsX6_saves) := goodIn_app (goodIn_of _ (by decide +kernel)) ggX6_wind_X6_saves
set_option maxRecDepth 20000 in
theorem ggX6_wind_X6_changes : GoodIn wsX6_wind wsX6_changes := goodIn_r _ [23, 16, 24, 25, 26, 27, 28, 29, 30, 31, 32, 33, 34, 35, 36, 37] (by decide +kernel) (by decide +kernel)
set_option maxRecDepth 20000 in
theorem gX6_wind_X6_changes : GoodIn wsX6_wind (wsV RX6 85 RX6 yX6_changes wsX6_changes) := goodIn_app (goodIn_of _ (by decide +kernel)) ggX6_wind_X6_changes
theorem dX6_wind_0 : decode cX6_wind 0 = .ok (.aload_n 0, 1) := by decide +kernel
theorem dX6_wind_1 : decode cX6_wind 1 = .ok (.iconst 0, 1) := by decide +kernel
theorem dX6_wind_2 : decode cX6_wind 2 = .ok (.putfield 25, 3) := by decide +kernel
theorem dX6_wind_5 : decode cX6_wind 5 = .ok (.iload_n 1, 1) := by decide +kernel
theorem dX6_wind_6 : decode cX6_wind 6 = .ok (.iconst 0, 1) := by decide +kernel
theorem dX6_wind_7 : decode cX6_wind 7 = .ok (.bipush 20, 2) := by decide +kernel
theorem dX6_wind_9 : decode cX6_wind 9 = .ok (.invokestatic 29, 3) := by decide +kernel
theorem dX6_wind_12 : decode cX6_wind 12 = .ok (.ifCond .ne 9, 3) := by decide +kernel
theorem dX6_wind_15 : decode cX6_wind 15 = .ok (.aload_n 0, 1) := by decide +kernel
theorem dX6_wind_16 : decode cX6_wind 16 = .ok (.iconst 1, 1) := by decide +kernel
theorem dX6_wind_17 : decode cX6_wind 17 = .ok (.invokevirtual 40, 3) := by decide +kernel
theorem dX6_wind_20 : decode cX6_wind 20 = .ok (.ireturn, 1) := by decide +kernel
theorem dX6_wind_21 : decode cX6_wind 21 = .ok (.aload_n 0, 1) := by decide +kernel
theorem dX6_wind_22 : decode cX6_wind 22 = .ok (.invokevirtual 82, 3) := by decide +kernel
theorem dX6_wind_25 : decode cX6_wind 25 = .ok (.aload_n 0, 1) := by decide +kernel
theorem dX6_wind_26 : decode cX6_wind 26 = .ok (.iconst 5, 1) := by decide +kernel
theorem dX6_wind_27 : decode cX6_wind 27 = .ok (.iload_n 1, 1) := by decide +kernel
theorem dX6_wind_28 : decode cX6_wind 28 = .ok (.invokevirtual 85, 3) := by decide +kernel
theorem dX6_wind_31 : decode cX6_wind 31 = .ok (.ireturn, 1) := by decide +kernel
set_option maxRecDepth 20000 in
theorem ggX6_fill_X6_in : GoodIn wsX6_fill wsX6_in := goodIn_r _ [7] (by decide +kernel) (by decide +kernel)
set_option maxRecDepth 20000 in
theorem gX6_fill_X6_in : GoodIn wsX6_fill (va_wsS RX6 29 yX6_in wsX6_in) := goodIn_app (goodIn_of _ (by decide +kernel)) ggX6_fill_X6_in
set_option maxRecDepth 20000 in
theorem ggX6_fill_X6_fails : GoodIn wsX6_fill wsX6_fails := goodIn_r _ [11, 1, 21, 22, 23, 24, 25, 26, 27, 28, 29, 30, 31, 32, 33, 34] (by decide +kernel) (by decide +kernel)
set_option maxRecDepth 20000 in
theorem gX6_fill_X6_fails : GoodIn wsX6_fill (wsV RX6 40 RX6 yX6_fails wsX6_fails) := goodIn_app (goodIn_of _ (by decide +kernel)) ggX6_fill_X6_fails
set_option maxRecDepth 20000 in
theorem ggX6_fill_X6_saves : GoodIn wsX6_fill wsX6_saves := goodIn_r _ [15, 16, 17, 2, 18, 19, 6, 20, 21, 22, 23, 24, 25, 26, 27, 28, 29, 30, 31, 32, 33, 34] (by decide +kernel) (by decide +kernel)
set_option maxRecDepth 20000 in
theorem gX6_fill_X6_saves : GoodIn wsX6_fill (wsV RX6 82 RX6 yX6_saves wsX6_saves) := goodIn_app (goodIn_of _ (by decide +kernel)) ggX6_fill_X6_saves
theorem dX6_fill_0 : decode cX6_fill 0 = .ok (.aload_n 0, 1) := by decide +kernel
theorem dX6_fill_1 : decode cX6_fill 1 = .ok (.iconst 0, 1) := by decide +kernel
theorem dX6_fill_2 : decode cX6_fill 2 = .ok (.putfield 25, 3) := by decide +kernel
theorem dX6_fill_5 : decode cX6_fill 5 = .ok (.iload_n 1, 1) := by decide +kernel
theorem dX6_fill_6 : decode cX6_fill 6 = .ok (.iconst 1, 1) := by decide +kernel
theorem dX6_fill_7 : decode cX6_fill 7 = .ok (.sipush 9999, 3) := by decide +kernel
theorem dX6_fill_10 : decode cX6_fill 10 = .ok (.invokestatic 29, 3) := by decide +kernel
theorem dX6_fill_13 : decode cX6_fill 13 = .ok (.ifCond .ne 9, 3) := by decide +kernel
theorem dX6_fill_16 : decode cX6_fill 16 = .ok (.aload_n 0, 1) := by decide +kernel
theorem dX6_fill_17 : decode cX6_fill 17 = .ok (.iconst 1, 1) := by decide +kernel
theorem dX6_fill_18 : decode cX6_fill 18 = .ok (.invokevirtual 40, 3) := by decide +kernel
theorem dX6_fill_21 : decode cX6_fill 21 = .ok (.ireturn, 1) := by decide +kernel
theorem dX6_fill_22 : decode cX6_fill 22 = .ok (.aload_n 0, 1) := by decide +kernel
theorem dX6_fill_23 : decode cX6_fill 23 = .ok (.getfield 7, 3) := by decide +kernel
theorem dX6_fill_26 : decode cX6_fill 26 = .ok (.bipush 6, 2) := by decide +kernel
theorem dX6_fill_28 : decode cX6_fill 28 = .ok (.iaload, 1) := by decide +kernel
theorem dX6_fill_29 : decode cX6_fill 29 = .ok (.iload_n 1, 1) := by decide +kernel
theorem dX6_fill_30 : decode cX6_fill 30 = .ok (.iadd, 1) := by decide +kernel
theorem dX6_fill_31 : decode cX6_fill 31 = .ok (.ldc 89, 2) := by decide +kernel
theorem dX6_fill_33 : decode cX6_fill 33 = .ok (.if_icmp .le 9, 3) := by decide +kernel
theorem dX6_fill_36 : decode cX6_fill 36 = .ok (.aload_n 0, 1) := by decide +kernel
theorem dX6_fill_37 : decode cX6_fill 37 = .ok (.iconst 2, 1) := by decide +kernel
theorem dX6_fill_38 : decode cX6_fill 38 = .ok (.invokevirtual 40, 3) := by decide +kernel
theorem dX6_fill_41 : decode cX6_fill 41 = .ok (.ireturn, 1) := by decide +kernel
theorem dX6_fill_42 : decode cX6_fill 42 = .ok (.aload_n 0, 1) := by decide +kernel
theorem dX6_fill_43 : decode cX6_fill 43 = .ok (.invokevirtual 82, 3) := by decide +kernel
theorem dX6_fill_46 : decode cX6_fill 46 = .ok (.aload_n 0, 1) := by decide +kernel
theorem dX6_fill_47 : decode cX6_fill 47 = .ok (.getfield 7, 3) := by decide +kernel
theorem dX6_fill_50 : decode cX6_fill 50 = .ok (.bipush 6, 2) := by decide +kernel
theorem dX6_fill_52 : decode cX6_fill 52 = .ok (.dup2, 1) := by decide +kernel
theorem dX6_fill_53 : decode cX6_fill 53 = .ok (.iaload, 1) := by decide +kernel
theorem dX6_fill_54 : decode cX6_fill 54 = .ok (.iload_n 1, 1) := by decide +kernel
theorem dX6_fill_55 : decode cX6_fill 55 = .ok (.iadd, 1) := by decide +kernel
theorem dX6_fill_56 : decode cX6_fill 56 = .ok (.iastore, 1) := by decide +kernel
theorem dX6_fill_57 : decode cX6_fill 57 = .ok (.aload_n 0, 1) := by decide +kernel
theorem dX6_fill_58 : decode cX6_fill 58 = .ok (.getfield 7, 3) := by decide +kernel
theorem dX6_fill_61 : decode cX6_fill 61 = .ok (.bipush 6, 2) := by decide +kernel
theorem dX6_fill_63 : decode cX6_fill 63 = .ok (.iaload, 1) := by decide +kernel
theorem dX6_fill_64 : decode cX6_fill 64 = .ok (.ireturn, 1) := by decide +kernel
set_option maxRecDepth 20000 in
theorem ggX6_set_X6_in : GoodIn wsX6_set wsX6_in := goodIn_r _ [5] (by decide +kernel) (by decide +kernel)
set_option maxRecDepth 20000 in
theorem gX6_set_X6_in : GoodIn wsX6_set (va_wsS RX6 29 yX6_in wsX6_in) := goodIn_app (goodIn_of _ (by decide +kernel)) ggX6_set_X6_in
set_option maxRecDepth 20000 in
theorem ggX6_set_X6_fails : GoodIn wsX6_set wsX6_fails := goodIn_r _ [9, 1, 24, 25, 26, 27, 28, 29, 30, 31, 32, 33, 34, 35, 36, 37] (by decide +kernel) (by decide +kernel)
set_option maxRecDepth 20000 in
theorem gX6_set_X6_fails : GoodIn wsX6_set (wsV RX6 40 RX6 yX6_fails wsX6_fails) := goodIn_app (goodIn_of _ (by decide +kernel)) ggX6_set_X6_fails
set_option maxRecDepth 20000 in
theorem ggX6_set_X6_saves : GoodIn wsX6_set wsX6_saves := goodIn_r _ [13, 14, 15, 16, 17, 18, 4, 19, 24, 25, 26, 27, 28, 29, 30, 31, 32, 33, 34, 35, 36, 37] (by decide +kernel) (by decide +kernel)
set_option maxRecDepth 20000 in
theorem gX6_set_X6_saves : GoodIn wsX6_set (wsV RX6 82 RX6 yX6_saves wsX6_saves) := goodIn_app (goodIn_of _ (by decide +kernel)) ggX6_set_X6_saves
set_option maxRecDepth 20000 in
theorem ggX6_set_X6_changes : GoodIn wsX6_set wsX6_changes := goodIn_r _ [23, 16, 24, 25, 26, 27, 28, 29, 30, 31, 32, 33, 34, 35, 36, 37] (by decide +kernel) (by decide +kernel)
set_option maxRecDepth 20000 in
theorem gX6_set_X6_changes : GoodIn wsX6_set (wsV RX6 85 RX6 yX6_changes wsX6_changes) := goodIn_app (goodIn_of _ (by decide +kernel)) ggX6_set_X6_changes
theorem dX6_set_0 : decode cX6_set 0 = .ok (.aload_n 0, 1) := by decide +kernel
theorem dX6_set_1 : decode cX6_set 1 = .ok (.iconst 0, 1) := by decide +kernel
theorem dX6_set_2 : decode cX6_set 2 = .ok (.putfield 25, 3) := by decide +kernel
theorem dX6_set_5 : decode cX6_set 5 = .ok (.iload_n 1, 1) := by decide +kernel
theorem dX6_set_6 : decode cX6_set 6 = .ok (.iconst 0, 1) := by decide +kernel
theorem dX6_set_7 : decode cX6_set 7 = .ok (.iconst 2, 1) := by decide +kernel
theorem dX6_set_8 : decode cX6_set 8 = .ok (.invokestatic 29, 3) := by decide +kernel
theorem dX6_set_11 : decode cX6_set 11 = .ok (.ifCond .ne 9, 3) := by decide +kernel
theorem dX6_set_14 : decode cX6_set 14 = .ok (.aload_n 0, 1) := by decide +kernel
theorem dX6_set_15 : decode cX6_set 15 = .ok (.iconst 1, 1) := by decide +kernel
theorem dX6_set_16 : decode cX6_set 16 = .ok (.invokevirtual 40, 3) := by decide +kernel
theorem dX6_set_19 : decode cX6_set 19 = .ok (.ireturn, 1) := by decide +kernel
theorem dX6_set_20 : decode cX6_set 20 = .ok (.iload_n 2, 1) := by decide +kernel
theorem dX6_set_21 : decode cX6_set 21 = .ok (.iload_n 1, 1) := by decide +kernel
theorem dX6_set_22 : decode cX6_set 22 = .ok (.iconst 2, 1) := by decide +kernel
theorem dX6_set_23 : decode cX6_set 23 = .ok (.if_icmp .ne 7, 3) := by decide +kernel
theorem dX6_set_26 : decode cX6_set 26 = .ok (.iconst 1, 1) := by decide +kernel
theorem dX6_set_27 : decode cX6_set 27 = .ok (.goto 4, 3) := by decide +kernel
theorem dX6_set_30 : decode cX6_set 30 = .ok (.iconst 0, 1) := by decide +kernel
theorem dX6_set_31 : decode cX6_set 31 = .ok (.iload_n 1, 1) := by decide +kernel
theorem dX6_set_32 : decode cX6_set 32 = .ok (.ifCond .ne 8, 3) := by decide +kernel
theorem dX6_set_35 : decode cX6_set 35 = .ok (.bipush 20, 2) := by decide +kernel
theorem dX6_set_37 : decode cX6_set 37 = .ok (.goto 15, 3) := by decide +kernel
theorem dX6_set_40 : decode cX6_set 40 = .ok (.iload_n 1, 1) := by decide +kernel
theorem dX6_set_41 : decode cX6_set 41 = .ok (.iconst 1, 1) := by decide +kernel
theorem dX6_set_42 : decode cX6_set 42 = .ok (.if_icmp .ne 8, 3) := by decide +kernel
theorem dX6_set_45 : decode cX6_set 45 = .ok (.bipush 50, 2) := by decide +kernel
theorem dX6_set_47 : decode cX6_set 47 = .ok (.goto 5, 3) := by decide +kernel
theorem dX6_set_50 : decode cX6_set 50 = .ok (.bipush 10, 2) := by decide +kernel
theorem dX6_set_52 : decode cX6_set 52 = .ok (.invokestatic 29, 3) := by decide +kernel
theorem dX6_set_55 : decode cX6_set 55 = .ok (.ifCond .ne 9, 3) := by decide +kernel
theorem dX6_set_58 : decode cX6_set 58 = .ok (.aload_n 0, 1) := by decide +kernel
theorem dX6_set_59 : decode cX6_set 59 = .ok (.iconst 2, 1) := by decide +kernel
theorem dX6_set_60 : decode cX6_set 60 = .ok (.invokevirtual 40, 3) := by decide +kernel
theorem dX6_set_63 : decode cX6_set 63 = .ok (.ireturn, 1) := by decide +kernel
theorem dX6_set_64 : decode cX6_set 64 = .ok (.aload_n 0, 1) := by decide +kernel
theorem dX6_set_65 : decode cX6_set 65 = .ok (.invokevirtual 82, 3) := by decide +kernel
theorem dX6_set_68 : decode cX6_set 68 = .ok (.aload_n 0, 1) := by decide +kernel
theorem dX6_set_69 : decode cX6_set 69 = .ok (.iload_n 1, 1) := by decide +kernel
theorem dX6_set_70 : decode cX6_set 70 = .ok (.iload_n 2, 1) := by decide +kernel
theorem dX6_set_71 : decode cX6_set 71 = .ok (.invokevirtual 85, 3) := by decide +kernel
theorem dX6_set_74 : decode cX6_set 74 = .ok (.ireturn, 1) := by decide +kernel
set_option maxRecDepth 20000 in
theorem ggX6_aimBy_X6_of : GoodIn wsX6_aimBy wsX6_of := goodIn_r _ [5] (by decide +kernel) (by decide +kernel)
set_option maxRecDepth 20000 in
theorem gX6_aimBy_X6_of : GoodIn wsX6_aimBy (va_wsS RX6 44 yX6_of wsX6_of) := goodIn_app (goodIn_of _ (by decide +kernel)) ggX6_aimBy_X6_of
set_option maxRecDepth 20000 in
theorem ggX6_aimBy_X6_by : GoodIn wsX6_aimBy wsX6_by := goodIn_r _ [8] (by decide +kernel) (by decide +kernel)
set_option maxRecDepth 20000 in
theorem gX6_aimBy_X6_by : GoodIn wsX6_aimBy (va_wsS RX6 58 yX6_by wsX6_by) := goodIn_app (goodIn_of _ (by decide +kernel)) ggX6_aimBy_X6_by
theorem dX6_aimBy_0 : decode cX6_aimBy 0 = .ok (.aload_n 0, 1) := by decide +kernel
theorem dX6_aimBy_1 : decode cX6_aimBy 1 = .ok (.getfield 7, 3) := by decide +kernel
theorem dX6_aimBy_4 : decode cX6_aimBy 4 = .ok (.iload_n 2, 1) := by decide +kernel
theorem dX6_aimBy_5 : decode cX6_aimBy 5 = .ok (.iconst 3, 1) := by decide +kernel
theorem dX6_aimBy_6 : decode cX6_aimBy 6 = .ok (.invokestatic 44, 3) := by decide +kernel
theorem dX6_aimBy_9 : decode cX6_aimBy 9 = .ok (.istore_n 3, 1) := by decide +kernel
theorem dX6_aimBy_10 : decode cX6_aimBy 10 = .ok (.iconst 0, 1) := by decide +kernel
theorem dX6_aimBy_11 : decode cX6_aimBy 11 = .ok (.istore 4, 2) := by decide +kernel
theorem dX6_aimBy_13 : decode cX6_aimBy 13 = .ok (.iload 4, 2) := by decide +kernel
theorem dX6_aimBy_15 : decode cX6_aimBy 15 = .ok (.aload_n 0, 1) := by decide +kernel
theorem dX6_aimBy_16 : decode cX6_aimBy 16 = .ok (.getfield 7, 3) := by decide +kernel
theorem dX6_aimBy_19 : decode cX6_aimBy 19 = .ok (.bipush 8, 2) := by decide +kernel
theorem dX6_aimBy_21 : decode cX6_aimBy 21 = .ok (.iaload, 1) := by decide +kernel
theorem dX6_aimBy_22 : decode cX6_aimBy 22 = .ok (.if_icmp .ge 52, 3) := by decide +kernel
theorem dX6_aimBy_25 : decode cX6_aimBy 25 = .ok (.aload_n 0, 1) := by decide +kernel
theorem dX6_aimBy_26 : decode cX6_aimBy 26 = .ok (.getfield 7, 3) := by decide +kernel
theorem dX6_aimBy_29 : decode cX6_aimBy 29 = .ok (.iload 4, 2) := by decide +kernel
theorem dX6_aimBy_31 : decode cX6_aimBy 31 = .ok (.iconst 1, 1) := by decide +kernel
theorem dX6_aimBy_32 : decode cX6_aimBy 32 = .ok (.invokestatic 58, 3) := by decide +kernel
theorem dX6_aimBy_35 : decode cX6_aimBy 35 = .ok (.iload_n 1, 1) := by decide +kernel
theorem dX6_aimBy_36 : decode cX6_aimBy 36 = .ok (.if_icmp .gt 30, 3) := by decide +kernel
theorem dX6_aimBy_39 : decode cX6_aimBy 39 = .ok (.aload_n 0, 1) := by decide +kernel
theorem dX6_aimBy_40 : decode cX6_aimBy 40 = .ok (.getfield 7, 3) := by decide +kernel
theorem dX6_aimBy_43 : decode cX6_aimBy 43 = .ok (.iload 4, 2) := by decide +kernel
theorem dX6_aimBy_45 : decode cX6_aimBy 45 = .ok (.iconst 2, 1) := by decide +kernel
theorem dX6_aimBy_46 : decode cX6_aimBy 46 = .ok (.invokestatic 58, 3) := by decide +kernel
theorem dX6_aimBy_49 : decode cX6_aimBy 49 = .ok (.iload_n 2, 1) := by decide +kernel
theorem dX6_aimBy_50 : decode cX6_aimBy 50 = .ok (.if_icmp .ne 16, 3) := by decide +kernel
theorem dX6_aimBy_53 : decode cX6_aimBy 53 = .ok (.aload_n 0, 1) := by decide +kernel
theorem dX6_aimBy_54 : decode cX6_aimBy 54 = .ok (.getfield 7, 3) := by decide +kernel
theorem dX6_aimBy_57 : decode cX6_aimBy 57 = .ok (.iload 4, 2) := by decide +kernel
theorem dX6_aimBy_59 : decode cX6_aimBy 59 = .ok (.iconst 3, 1) := by decide +kernel
theorem dX6_aimBy_60 : decode cX6_aimBy 60 = .ok (.invokestatic 58, 3) := by decide +kernel
theorem dX6_aimBy_63 : decode cX6_aimBy 63 = .ok (.goto 4, 3) := by decide +kernel
theorem dX6_aimBy_66 : decode cX6_aimBy 66 = .ok (.iload_n 3, 1) := by decide +kernel
theorem dX6_aimBy_67 : decode cX6_aimBy 67 = .ok (.istore_n 3, 1) := by decide +kernel
theorem dX6_aimBy_68 : decode cX6_aimBy 68 = .ok (.iinc 4 1, 3) := by decide +kernel
theorem dX6_aimBy_71 : decode cX6_aimBy 71 = .ok (.goto (-58), 3) := by decide +kernel
theorem dX6_aimBy_74 : decode cX6_aimBy 74 = .ok (.iload_n 3, 1) := by decide +kernel
theorem dX6_aimBy_75 : decode cX6_aimBy 75 = .ok (.ireturn, 1) := by decide +kernel
set_option maxRecDepth 20000 in
theorem ggX6_isThere_X6_by : GoodIn wsX6_isThere wsX6_by := goodIn_r _ [5] (by decide +kernel) (by decide +kernel)
set_option maxRecDepth 20000 in
theorem gX6_isThere_X6_by : GoodIn wsX6_isThere (va_wsS RX6 58 yX6_by wsX6_by) := goodIn_app (goodIn_of _ (by decide +kernel)) ggX6_isThere_X6_by
theorem dX6_isThere_0 : decode cX6_isThere 0 = .ok (.iconst 0, 1) := by decide +kernel
theorem dX6_isThere_1 : decode cX6_isThere 1 = .ok (.istore_n 3, 1) := by decide +kernel
theorem dX6_isThere_2 : decode cX6_isThere 2 = .ok (.iconst 0, 1) := by decide +kernel
theorem dX6_isThere_3 : decode cX6_isThere 3 = .ok (.istore 4, 2) := by decide +kernel
theorem dX6_isThere_5 : decode cX6_isThere 5 = .ok (.iload 4, 2) := by decide +kernel
theorem dX6_isThere_7 : decode cX6_isThere 7 = .ok (.aload_n 0, 1) := by decide +kernel
theorem dX6_isThere_8 : decode cX6_isThere 8 = .ok (.getfield 7, 3) := by decide +kernel
theorem dX6_isThere_11 : decode cX6_isThere 11 = .ok (.bipush 8, 2) := by decide +kernel
theorem dX6_isThere_13 : decode cX6_isThere 13 = .ok (.iaload, 1) := by decide +kernel
theorem dX6_isThere_14 : decode cX6_isThere 14 = .ok (.if_icmp .ge 47, 3) := by decide +kernel
theorem dX6_isThere_17 : decode cX6_isThere 17 = .ok (.iload_n 3, 1) := by decide +kernel
theorem dX6_isThere_18 : decode cX6_isThere 18 = .ok (.ifCond .ne 31, 3) := by decide +kernel
theorem dX6_isThere_21 : decode cX6_isThere 21 = .ok (.aload_n 0, 1) := by decide +kernel
theorem dX6_isThere_22 : decode cX6_isThere 22 = .ok (.getfield 7, 3) := by decide +kernel
theorem dX6_isThere_25 : decode cX6_isThere 25 = .ok (.iload 4, 2) := by decide +kernel
theorem dX6_isThere_27 : decode cX6_isThere 27 = .ok (.iconst 1, 1) := by decide +kernel
theorem dX6_isThere_28 : decode cX6_isThere 28 = .ok (.invokestatic 58, 3) := by decide +kernel
theorem dX6_isThere_31 : decode cX6_isThere 31 = .ok (.iload_n 1, 1) := by decide +kernel
theorem dX6_isThere_32 : decode cX6_isThere 32 = .ok (.if_icmp .ne 21, 3) := by decide +kernel
theorem dX6_isThere_35 : decode cX6_isThere 35 = .ok (.aload_n 0, 1) := by decide +kernel
theorem dX6_isThere_36 : decode cX6_isThere 36 = .ok (.getfield 7, 3) := by decide +kernel
theorem dX6_isThere_39 : decode cX6_isThere 39 = .ok (.iload 4, 2) := by decide +kernel
theorem dX6_isThere_41 : decode cX6_isThere 41 = .ok (.iconst 2, 1) := by decide +kernel
theorem dX6_isThere_42 : decode cX6_isThere 42 = .ok (.invokestatic 58, 3) := by decide +kernel
theorem dX6_isThere_45 : decode cX6_isThere 45 = .ok (.iload_n 2, 1) := by decide +kernel
theorem dX6_isThere_46 : decode cX6_isThere 46 = .ok (.if_icmp .ne 7, 3) := by decide +kernel
theorem dX6_isThere_49 : decode cX6_isThere 49 = .ok (.iconst 1, 1) := by decide +kernel
theorem dX6_isThere_50 : decode cX6_isThere 50 = .ok (.goto 4, 3) := by decide +kernel
theorem dX6_isThere_53 : decode cX6_isThere 53 = .ok (.iconst 0, 1) := by decide +kernel
theorem dX6_isThere_54 : decode cX6_isThere 54 = .ok (.istore_n 3, 1) := by decide +kernel
theorem dX6_isThere_55 : decode cX6_isThere 55 = .ok (.iinc 4 1, 3) := by decide +kernel
theorem dX6_isThere_58 : decode cX6_isThere 58 = .ok (.goto (-53), 3) := by decide +kernel
theorem dX6_isThere_61 : decode cX6_isThere 61 = .ok (.iload_n 3, 1) := by decide +kernel
theorem dX6_isThere_62 : decode cX6_isThere 62 = .ok (.ireturn, 1) := by decide +kernel
set_option maxRecDepth 20000 in
theorem ggX6_reason_X6_isThere : GoodIn wsX6_reason wsX6_isThere := goodIn_r _ [6, 1, 7, 8, 5, 9, 17, 18, 19, 20, 21, 22, 23, 24, 25, 26, 27, 28, 29, 30] (by decide +kernel) (by decide +kernel)
set_option maxRecDepth 20000 in
theorem gX6_reason_X6_isThere : GoodIn wsX6_reason (wsV RX6 90 RX6 yX6_isThere wsX6_isThere) := goodIn_app (goodIn_of _ (by decide +kernel)) ggX6_reason_X6_isThere
set_option maxRecDepth 20000 in
theorem ggX6_reason_X6_of : GoodIn wsX6_reason wsX6_of := goodIn_r _ [12] (by decide +kernel) (by decide +kernel)
set_option maxRecDepth 20000 in
theorem gX6_reason_X6_of : GoodIn wsX6_reason (va_wsS RX6 44 yX6_of wsX6_of) := goodIn_app (goodIn_of _ (by decide +kernel)) ggX6_reason_X6_of
set_option maxRecDepth 20000 in
theorem ggX6_reason_X6_aimBy : GoodIn wsX6_reason wsX6_aimBy := goodIn_r _ [16, 1, 10, 11, 5, 12, 7, 8, 9, 17, 18, 19, 20, 21, 22, 23, 24, 25, 26, 27, 28, 29, 30] (by decide +kernel) (by decide +kernel)
set_option maxRecDepth 20000 in
theorem gX6_reason_X6_aimBy : GoodIn wsX6_reason (wsV RX6 94 RX6 yX6_aimBy wsX6_aimBy) := goodIn_app (goodIn_of _ (by decide +kernel)) ggX6_reason_X6_aimBy
theorem dX6_reason_0 : decode cX6_reason 0 = .ok (.iload_n 1, 1) := by decide +kernel
theorem dX6_reason_1 : decode cX6_reason 1 = .ok (.aload_n 0, 1) := by decide +kernel
theorem dX6_reason_2 : decode cX6_reason 2 = .ok (.getfield 7, 3) := by decide +kernel
theorem dX6_reason_5 : decode cX6_reason 5 = .ok (.bipush 7, 2) := by decide +kernel
theorem dX6_reason_7 : decode cX6_reason 7 = .ok (.iaload, 1) := by decide +kernel
theorem dX6_reason_8 : decode cX6_reason 8 = .ok (.if_icmp .ge 5, 3) := by decide +kernel
theorem dX6_reason_11 : decode cX6_reason 11 = .ok (.iconst 1, 1) := by decide +kernel
theorem dX6_reason_12 : decode cX6_reason 12 = .ok (.ireturn, 1) := by decide +kernel
theorem dX6_reason_13 : decode cX6_reason 13 = .ok (.aload_n 0, 1) := by decide +kernel
theorem dX6_reason_14 : decode cX6_reason 14 = .ok (.getfield 7, 3) := by decide +kernel
theorem dX6_reason_17 : decode cX6_reason 17 = .ok (.bipush 8, 2) := by decide +kernel
theorem dX6_reason_19 : decode cX6_reason 19 = .ok (.iaload, 1) := by decide +kernel
theorem dX6_reason_20 : decode cX6_reason 20 = .ok (.bipush 16, 2) := by decide +kernel
theorem dX6_reason_22 : decode cX6_reason 22 = .ok (.if_icmp .ne 5, 3) := by decide +kernel
theorem dX6_reason_25 : decode cX6_reason 25 = .ok (.iconst 2, 1) := by decide +kernel
theorem dX6_reason_26 : decode cX6_reason 26 = .ok (.ireturn, 1) := by decide +kernel
theorem dX6_reason_27 : decode cX6_reason 27 = .ok (.aload_n 0, 1) := by decide +kernel
theorem dX6_reason_28 : decode cX6_reason 28 = .ok (.iload_n 1, 1) := by decide +kernel
theorem dX6_reason_29 : decode cX6_reason 29 = .ok (.iload_n 2, 1) := by decide +kernel
theorem dX6_reason_30 : decode cX6_reason 30 = .ok (.invokevirtual 90, 3) := by decide +kernel
theorem dX6_reason_33 : decode cX6_reason 33 = .ok (.ifCond .eq 5, 3) := by decide +kernel
theorem dX6_reason_36 : decode cX6_reason 36 = .ok (.iconst 3, 1) := by decide +kernel
theorem dX6_reason_37 : decode cX6_reason 37 = .ok (.ireturn, 1) := by decide +kernel
theorem dX6_reason_38 : decode cX6_reason 38 = .ok (.iconst 0, 1) := by decide +kernel
theorem dX6_reason_39 : decode cX6_reason 39 = .ok (.istore 4, 2) := by decide +kernel
theorem dX6_reason_41 : decode cX6_reason 41 = .ok (.iload_n 2, 1) := by decide +kernel
theorem dX6_reason_42 : decode cX6_reason 42 = .ok (.iconst 4, 1) := by decide +kernel
theorem dX6_reason_43 : decode cX6_reason 43 = .ok (.idiv, 1) := by decide +kernel
theorem dX6_reason_44 : decode cX6_reason 44 = .ok (.iconst 4, 1) := by decide +kernel
theorem dX6_reason_45 : decode cX6_reason 45 = .ok (.imul, 1) := by decide +kernel
theorem dX6_reason_46 : decode cX6_reason 46 = .ok (.istore 5, 2) := by decide +kernel
theorem dX6_reason_48 : decode cX6_reason 48 = .ok (.iload 5, 2) := by decide +kernel
theorem dX6_reason_50 : decode cX6_reason 50 = .ok (.iload_n 2, 1) := by decide +kernel
theorem dX6_reason_51 : decode cX6_reason 51 = .ok (.iconst 4, 1) := by decide +kernel
theorem dX6_reason_52 : decode cX6_reason 52 = .ok (.idiv, 1) := by decide +kernel
theorem dX6_reason_53 : decode cX6_reason 53 = .ok (.iconst 4, 1) := by decide +kernel
theorem dX6_reason_54 : decode cX6_reason 54 = .ok (.imul, 1) := by decide +kernel
theorem dX6_reason_55 : decode cX6_reason 55 = .ok (.iconst 4, 1) := by decide +kernel
theorem dX6_reason_56 : decode cX6_reason 56 = .ok (.iadd, 1) := by decide +kernel
theorem dX6_reason_57 : decode cX6_reason 57 = .ok (.if_icmp .ge 42, 3) := by decide +kernel
theorem dX6_reason_60 : decode cX6_reason 60 = .ok (.iload 4, 2) := by decide +kernel
theorem dX6_reason_62 : decode cX6_reason 62 = .ok (.aload_n 0, 1) := by decide +kernel
theorem dX6_reason_63 : decode cX6_reason 63 = .ok (.getfield 7, 3) := by decide +kernel
theorem dX6_reason_66 : decode cX6_reason 66 = .ok (.iload 5, 2) := by decide +kernel
theorem dX6_reason_68 : decode cX6_reason 68 = .ok (.iconst 0, 1) := by decide +kernel
theorem dX6_reason_69 : decode cX6_reason 69 = .ok (.invokestatic 44, 3) := by decide +kernel
theorem dX6_reason_72 : decode cX6_reason 72 = .ok (.iload 5, 2) := by decide +kernel
theorem dX6_reason_74 : decode cX6_reason 74 = .ok (.iload_n 2, 1) := by decide +kernel
theorem dX6_reason_75 : decode cX6_reason 75 = .ok (.if_icmp .ne 7, 3) := by decide +kernel
theorem dX6_reason_78 : decode cX6_reason 78 = .ok (.iload_n 3, 1) := by decide +kernel
theorem dX6_reason_79 : decode cX6_reason 79 = .ok (.goto 10, 3) := by decide +kernel
theorem dX6_reason_82 : decode cX6_reason 82 = .ok (.aload_n 0, 1) := by decide +kernel
theorem dX6_reason_83 : decode cX6_reason 83 = .ok (.iload_n 1, 1) := by decide +kernel
theorem dX6_reason_84 : decode cX6_reason 84 = .ok (.iload 5, 2) := by decide +kernel
theorem dX6_reason_86 : decode cX6_reason 86 = .ok (.invokevirtual 94, 3) := by decide +kernel
theorem dX6_reason_89 : decode cX6_reason 89 = .ok (.imul, 1) := by decide +kernel
theorem dX6_reason_90 : decode cX6_reason 90 = .ok (.iadd, 1) := by decide +kernel
theorem dX6_reason_91 : decode cX6_reason 91 = .ok (.istore 4, 2) := by decide +kernel
theorem dX6_reason_93 : decode cX6_reason 93 = .ok (.iinc 5 1, 3) := by decide +kernel
theorem dX6_reason_96 : decode cX6_reason 96 = .ok (.goto (-48), 3) := by decide +kernel
theorem dX6_reason_99 : decode cX6_reason 99 = .ok (.iload 4, 2) := by decide +kernel
theorem dX6_reason_101 : decode cX6_reason 101 = .ok (.aload_n 0, 1) := by decide +kernel
theorem dX6_reason_102 : decode cX6_reason 102 = .ok (.getfield 7, 3) := by decide +kernel
theorem dX6_reason_105 : decode cX6_reason 105 = .ok (.iconst 3, 1) := by decide +kernel
theorem dX6_reason_106 : decode cX6_reason 106 = .ok (.iload_n 2, 1) := by decide +kernel
theorem dX6_reason_107 : decode cX6_reason 107 = .ok (.iconst 4, 1) := by decide +kernel
theorem dX6_reason_108 : decode cX6_reason 108 = .ok (.idiv, 1) := by decide +kernel
theorem dX6_reason_109 : decode cX6_reason 109 = .ok (.iadd, 1) := by decide +kernel
theorem dX6_reason_110 : decode cX6_reason 110 = .ok (.iaload, 1) := by decide +kernel
theorem dX6_reason_111 : decode cX6_reason 111 = .ok (.if_icmp .le 7, 3) := by decide +kernel
theorem dX6_reason_114 : decode cX6_reason 114 = .ok (.iconst 4, 1) := by decide +kernel
theorem dX6_reason_115 : decode cX6_reason 115 = .ok (.goto 4, 3) := by decide +kernel
theorem dX6_reason_118 : decode cX6_reason 118 = .ok (.iconst 0, 1) := by decide +kernel
theorem dX6_reason_119 : decode cX6_reason 119 = .ok (.ireturn, 1) := by decide +kernel
set_option maxRecDepth 20000 in
theorem ggX6_comes_X6_by : GoodIn wsX6_comes wsX6_by := goodIn_r _ [5] (by decide +kernel) (by decide +kernel)
set_option maxRecDepth 20000 in
theorem gX6_comes_X6_by : GoodIn wsX6_comes (va_wsS RX6 58 yX6_by wsX6_by) := goodIn_app (goodIn_of _ (by decide +kernel)) ggX6_comes_X6_by
theorem dX6_comes_0 : decode cX6_comes 0 = .ok (.aload_n 0, 1) := by decide +kernel
theorem dX6_comes_1 : decode cX6_comes 1 = .ok (.getfield 7, 3) := by decide +kernel
theorem dX6_comes_4 : decode cX6_comes 4 = .ok (.bipush 8, 2) := by decide +kernel
theorem dX6_comes_6 : decode cX6_comes 6 = .ok (.iaload, 1) := by decide +kernel
theorem dX6_comes_7 : decode cX6_comes 7 = .ok (.istore 4, 2) := by decide +kernel
theorem dX6_comes_9 : decode cX6_comes 9 = .ok (.iload 4, 2) := by decide +kernel
theorem dX6_comes_11 : decode cX6_comes 11 = .ok (.ifCond .le 72, 3) := by decide +kernel
theorem dX6_comes_14 : decode cX6_comes 14 = .ok (.aload_n 0, 1) := by decide +kernel
theorem dX6_comes_15 : decode cX6_comes 15 = .ok (.getfield 7, 3) := by decide +kernel
theorem dX6_comes_18 : decode cX6_comes 18 = .ok (.iload 4, 2) := by decide +kernel
theorem dX6_comes_20 : decode cX6_comes 20 = .ok (.iconst 1, 1) := by decide +kernel
theorem dX6_comes_21 : decode cX6_comes 21 = .ok (.isub, 1) := by decide +kernel
theorem dX6_comes_22 : decode cX6_comes 22 = .ok (.iconst 1, 1) := by decide +kernel
theorem dX6_comes_23 : decode cX6_comes 23 = .ok (.invokestatic 58, 3) := by decide +kernel
theorem dX6_comes_26 : decode cX6_comes 26 = .ok (.iload_n 1, 1) := by decide +kernel
theorem dX6_comes_27 : decode cX6_comes 27 = .ok (.if_icmp .le 56, 3) := by decide +kernel
theorem dX6_comes_30 : decode cX6_comes 30 = .ok (.iconst 0, 1) := by decide +kernel
theorem dX6_comes_31 : decode cX6_comes 31 = .ok (.istore 5, 2) := by decide +kernel
theorem dX6_comes_33 : decode cX6_comes 33 = .ok (.iload 5, 2) := by decide +kernel
theorem dX6_comes_35 : decode cX6_comes 35 = .ok (.iconst 4, 1) := by decide +kernel
theorem dX6_comes_36 : decode cX6_comes 36 = .ok (.if_icmp .ge 41, 3) := by decide +kernel
theorem dX6_comes_39 : decode cX6_comes 39 = .ok (.aload_n 0, 1) := by decide +kernel
theorem dX6_comes_40 : decode cX6_comes 40 = .ok (.getfield 7, 3) := by decide +kernel
theorem dX6_comes_43 : decode cX6_comes 43 = .ok (.bipush 54, 2) := by decide +kernel
theorem dX6_comes_45 : decode cX6_comes 45 = .ok (.iconst 4, 1) := by decide +kernel
theorem dX6_comes_46 : decode cX6_comes 46 = .ok (.iload 4, 2) := by decide +kernel
theorem dX6_comes_48 : decode cX6_comes 48 = .ok (.imul, 1) := by decide +kernel
theorem dX6_comes_49 : decode cX6_comes 49 = .ok (.iadd, 1) := by decide +kernel
theorem dX6_comes_50 : decode cX6_comes 50 = .ok (.iload 5, 2) := by decide +kernel
theorem dX6_comes_52 : decode cX6_comes 52 = .ok (.iadd, 1) := by decide +kernel
theorem dX6_comes_53 : decode cX6_comes 53 = .ok (.aload_n 0, 1) := by decide +kernel
theorem dX6_comes_54 : decode cX6_comes 54 = .ok (.getfield 7, 3) := by decide +kernel
theorem dX6_comes_57 : decode cX6_comes 57 = .ok (.bipush 54, 2) := by decide +kernel
theorem dX6_comes_59 : decode cX6_comes 59 = .ok (.iconst 4, 1) := by decide +kernel
theorem dX6_comes_60 : decode cX6_comes 60 = .ok (.iload 4, 2) := by decide +kernel
theorem dX6_comes_62 : decode cX6_comes 62 = .ok (.imul, 1) := by decide +kernel
theorem dX6_comes_63 : decode cX6_comes 63 = .ok (.iadd, 1) := by decide +kernel
theorem dX6_comes_64 : decode cX6_comes 64 = .ok (.iconst 4, 1) := by decide +kernel
theorem dX6_comes_65 : decode cX6_comes 65 = .ok (.isub, 1) := by decide +kernel
theorem dX6_comes_66 : decode cX6_comes 66 = .ok (.iload 5, 2) := by decide +kernel
theorem dX6_comes_68 : decode cX6_comes 68 = .ok (.iadd, 1) := by decide +kernel
theorem dX6_comes_69 : decode cX6_comes 69 = .ok (.iaload, 1) := by decide +kernel
theorem dX6_comes_70 : decode cX6_comes 70 = .ok (.iastore, 1) := by decide +kernel
theorem dX6_comes_71 : decode cX6_comes 71 = .ok (.iinc 5 1, 3) := by decide +kernel
theorem dX6_comes_74 : decode cX6_comes 74 = .ok (.goto (-41), 3) := by decide +kernel
theorem dX6_comes_77 : decode cX6_comes 77 = .ok (.iinc 4 (-1), 3) := by decide +kernel
theorem dX6_comes_80 : decode cX6_comes 80 = .ok (.goto (-71), 3) := by decide +kernel
theorem dX6_comes_83 : decode cX6_comes 83 = .ok (.aload_n 0, 1) := by decide +kernel
theorem dX6_comes_84 : decode cX6_comes 84 = .ok (.getfield 7, 3) := by decide +kernel
theorem dX6_comes_87 : decode cX6_comes 87 = .ok (.bipush 54, 2) := by decide +kernel
theorem dX6_comes_89 : decode cX6_comes 89 = .ok (.iconst 4, 1) := by decide +kernel
theorem dX6_comes_90 : decode cX6_comes 90 = .ok (.iload 4, 2) := by decide +kernel
theorem dX6_comes_92 : decode cX6_comes 92 = .ok (.imul, 1) := by decide +kernel
theorem dX6_comes_93 : decode cX6_comes 93 = .ok (.iadd, 1) := by decide +kernel
theorem dX6_comes_94 : decode cX6_comes 94 = .ok (.aload_n 0, 1) := by decide +kernel
theorem dX6_comes_95 : decode cX6_comes 95 = .ok (.getfield 7, 3) := by decide +kernel
theorem dX6_comes_98 : decode cX6_comes 98 = .ok (.bipush 9, 2) := by decide +kernel
theorem dX6_comes_100 : decode cX6_comes 100 = .ok (.iaload, 1) := by decide +kernel
theorem dX6_comes_101 : decode cX6_comes 101 = .ok (.iastore, 1) := by decide +kernel
theorem dX6_comes_102 : decode cX6_comes 102 = .ok (.aload_n 0, 1) := by decide +kernel
theorem dX6_comes_103 : decode cX6_comes 103 = .ok (.getfield 7, 3) := by decide +kernel
theorem dX6_comes_106 : decode cX6_comes 106 = .ok (.bipush 54, 2) := by decide +kernel
theorem dX6_comes_108 : decode cX6_comes 108 = .ok (.iconst 4, 1) := by decide +kernel
theorem dX6_comes_109 : decode cX6_comes 109 = .ok (.iload 4, 2) := by decide +kernel
theorem dX6_comes_111 : decode cX6_comes 111 = .ok (.imul, 1) := by decide +kernel
theorem dX6_comes_112 : decode cX6_comes 112 = .ok (.iadd, 1) := by decide +kernel
theorem dX6_comes_113 : decode cX6_comes 113 = .ok (.iconst 1, 1) := by decide +kernel
theorem dX6_comes_114 : decode cX6_comes 114 = .ok (.iadd, 1) := by decide +kernel
theorem dX6_comes_115 : decode cX6_comes 115 = .ok (.iload_n 1, 1) := by decide +kernel
theorem dX6_comes_116 : decode cX6_comes 116 = .ok (.iastore, 1) := by decide +kernel
theorem dX6_comes_117 : decode cX6_comes 117 = .ok (.aload_n 0, 1) := by decide +kernel
theorem dX6_comes_118 : decode cX6_comes 118 = .ok (.getfield 7, 3) := by decide +kernel
theorem dX6_comes_121 : decode cX6_comes 121 = .ok (.bipush 54, 2) := by decide +kernel
theorem dX6_comes_123 : decode cX6_comes 123 = .ok (.iconst 4, 1) := by decide +kernel
theorem dX6_comes_124 : decode cX6_comes 124 = .ok (.iload 4, 2) := by decide +kernel
theorem dX6_comes_126 : decode cX6_comes 126 = .ok (.imul, 1) := by decide +kernel
theorem dX6_comes_127 : decode cX6_comes 127 = .ok (.iadd, 1) := by decide +kernel
theorem dX6_comes_128 : decode cX6_comes 128 = .ok (.iconst 2, 1) := by decide +kernel
theorem dX6_comes_129 : decode cX6_comes 129 = .ok (.iadd, 1) := by decide +kernel
theorem dX6_comes_130 : decode cX6_comes 130 = .ok (.iload_n 2, 1) := by decide +kernel
theorem dX6_comes_131 : decode cX6_comes 131 = .ok (.iastore, 1) := by decide +kernel
theorem dX6_comes_132 : decode cX6_comes 132 = .ok (.aload_n 0, 1) := by decide +kernel
theorem dX6_comes_133 : decode cX6_comes 133 = .ok (.getfield 7, 3) := by decide +kernel
theorem dX6_comes_136 : decode cX6_comes 136 = .ok (.bipush 54, 2) := by decide +kernel
theorem dX6_comes_138 : decode cX6_comes 138 = .ok (.iconst 4, 1) := by decide +kernel
theorem dX6_comes_139 : decode cX6_comes 139 = .ok (.iload 4, 2) := by decide +kernel
theorem dX6_comes_141 : decode cX6_comes 141 = .ok (.imul, 1) := by decide +kernel
theorem dX6_comes_142 : decode cX6_comes 142 = .ok (.iadd, 1) := by decide +kernel
theorem dX6_comes_143 : decode cX6_comes 143 = .ok (.iconst 3, 1) := by decide +kernel
theorem dX6_comes_144 : decode cX6_comes 144 = .ok (.iadd, 1) := by decide +kernel
theorem dX6_comes_145 : decode cX6_comes 145 = .ok (.iload_n 3, 1) := by decide +kernel
theorem dX6_comes_146 : decode cX6_comes 146 = .ok (.iastore, 1) := by decide +kernel
theorem dX6_comes_147 : decode cX6_comes 147 = .ok (.aload_n 0, 1) := by decide +kernel
theorem dX6_comes_148 : decode cX6_comes 148 = .ok (.getfield 7, 3) := by decide +kernel
theorem dX6_comes_151 : decode cX6_comes 151 = .ok (.bipush 8, 2) := by decide +kernel
theorem dX6_comes_153 : decode cX6_comes 153 = .ok (.dup2, 1) := by decide +kernel
theorem dX6_comes_154 : decode cX6_comes 154 = .ok (.iaload, 1) := by decide +kernel
theorem dX6_comes_155 : decode cX6_comes 155 = .ok (.iconst 1, 1) := by decide +kernel
theorem dX6_comes_156 : decode cX6_comes 156 = .ok (.iadd, 1) := by decide +kernel
theorem dX6_comes_157 : decode cX6_comes 157 = .ok (.iastore, 1) := by decide +kernel
theorem dX6_comes_158 : decode cX6_comes 158 = .ok (.aload_n 0, 1) := by decide +kernel
theorem dX6_comes_159 : decode cX6_comes 159 = .ok (.getfield 7, 3) := by decide +kernel
theorem dX6_comes_162 : decode cX6_comes 162 = .ok (.bipush 9, 2) := by decide +kernel
theorem dX6_comes_164 : decode cX6_comes 164 = .ok (.dup2, 1) := by decide +kernel
theorem dX6_comes_165 : decode cX6_comes 165 = .ok (.iaload, 1) := by decide +kernel
theorem dX6_comes_166 : decode cX6_comes 166 = .ok (.iconst 1, 1) := by decide +kernel
theorem dX6_comes_167 : decode cX6_comes 167 = .ok (.iadd, 1) := by decide +kernel
theorem dX6_comes_168 : decode cX6_comes 168 = .ok (.iastore, 1) := by decide +kernel
theorem dX6_comes_169 : decode cX6_comes 169 = .ok (.aload_n 0, 1) := by decide +kernel
theorem dX6_comes_170 : decode cX6_comes 170 = .ok (.getfield 7, 3) := by decide +kernel
theorem dX6_comes_173 : decode cX6_comes 173 = .ok (.bipush 9, 2) := by decide +kernel
theorem dX6_comes_175 : decode cX6_comes 175 = .ok (.iaload, 1) := by decide +kernel
theorem dX6_comes_176 : decode cX6_comes 176 = .ok (.iconst 1, 1) := by decide +kernel
theorem dX6_comes_177 : decode cX6_comes 177 = .ok (.isub, 1) := by decide +kernel
theorem dX6_comes_178 : decode cX6_comes 178 = .ok (.ireturn, 1) := by decide +kernel
set_option maxRecDepth 20000 in
theorem ggX6_isTick_X6_in : GoodIn wsX6_isTick wsX6_in := goodIn_r _ [4] (by decide +kernel) (by decide +kernel)
set_option maxRecDepth 20000 in
theorem gX6_isTick_X6_in : GoodIn wsX6_isTick (va_wsS RX6 29 yX6_in wsX6_in) := goodIn_app (goodIn_of _ (by decide +kernel)) ggX6_isTick_X6_in
theorem dX6_isTick_0 : decode cX6_isTick 0 = .ok (.iload_n 0, 1) := by decide +kernel
theorem dX6_isTick_1 : decode cX6_isTick 1 = .ok (.iconst 0, 1) := by decide +kernel
theorem dX6_isTick_2 : decode cX6_isTick 2 = .ok (.sipush 999, 3) := by decide +kernel
theorem dX6_isTick_5 : decode cX6_isTick 5 = .ok (.invokestatic 29, 3) := by decide +kernel
theorem dX6_isTick_8 : decode cX6_isTick 8 = .ok (.ireturn, 1) := by decide +kernel
set_option maxRecDepth 20000 in
theorem ggX6_cue_X6_isJet : GoodIn wsX6_cue wsX6_isJet := goodIn_r _ [5, 6, 7, 4, 8] (by decide +kernel) (by decide +kernel)
set_option maxRecDepth 20000 in
theorem gX6_cue_X6_isJet : GoodIn wsX6_cue (va_wsS RX6 78 yX6_isJet wsX6_isJet) := goodIn_app (goodIn_of _ (by decide +kernel)) ggX6_cue_X6_isJet
set_option maxRecDepth 20000 in
theorem ggX6_cue_X6_fails : GoodIn wsX6_cue wsX6_fails := goodIn_r _ [12, 1, 48, 49, 50, 51, 52, 53, 54, 55, 56, 57, 58, 59, 60, 61] (by decide +kernel) (by decide +kernel)
set_option maxRecDepth 20000 in
theorem gX6_cue_X6_fails : GoodIn wsX6_cue (wsV RX6 40 RX6 yX6_fails wsX6_fails) := goodIn_app (goodIn_of _ (by decide +kernel)) ggX6_cue_X6_fails
set_option maxRecDepth 20000 in
theorem ggX6_cue_X6_isTick : GoodIn wsX6_cue wsX6_isTick := goodIn_r _ [15, 6, 7, 4, 8] (by decide +kernel) (by decide +kernel)
set_option maxRecDepth 20000 in
theorem gX6_cue_X6_isTick : GoodIn wsX6_cue (va_wsS RX6 97 yX6_isTick wsX6_isTick) := goodIn_app (goodIn_of _ (by decide +kernel)) ggX6_cue_X6_isTick
set_option maxRecDepth 20000 in
theorem ggX6_cue_X6_in : GoodIn wsX6_cue wsX6_in := goodIn_r _ [8] (by decide +kernel) (by decide +kernel)
set_option maxRecDepth 20000 in
theorem gX6_cue_X6_in : GoodIn wsX6_cue (va_wsS RX6 29 yX6_in wsX6_in) := goodIn_app (goodIn_of _ (by decide +kernel)) ggX6_cue_X6_in
set_option maxRecDepth 20000 in
theorem ggX6_cue_X6_reason : GoodIn wsX6_cue wsX6_reason := goodIn_r _ [19, 20, 21, 22, 23, 4, 24, 25, 26, 27, 28, 29, 30, 31, 32, 33, 34, 48, 49, 50, 51, 52, 53, 54, 55, 56, 57, 58, 59, 60, 61] (by decide +kernel) (by decide +kernel)
set_option maxRecDepth 20000 in
theorem gX6_cue_X6_reason : GoodIn wsX6_cue (wsV RX6 100 RX6 yX6_reason wsX6_reason) := goodIn_app (goodIn_of _ (by decide +kernel)) ggX6_cue_X6_reason
set_option maxRecDepth 20000 in
theorem ggX6_cue_X6_saves : GoodIn wsX6_cue wsX6_saves := goodIn_r _ [38, 39, 40, 20, 41, 42, 4, 43, 48, 49, 50, 51, 52, 53, 54, 55, 56, 57, 58, 59, 60, 61] (by decide +kernel) (by decide +kernel)
set_option maxRecDepth 20000 in
theorem gX6_cue_X6_saves : GoodIn wsX6_cue (wsV RX6 82 RX6 yX6_saves wsX6_saves) := goodIn_app (goodIn_of _ (by decide +kernel)) ggX6_cue_X6_saves
set_option maxRecDepth 20000 in
theorem ggX6_cue_X6_comes : GoodIn wsX6_cue wsX6_comes := goodIn_r _ [47, 20, 25, 26, 4, 27, 48, 49, 50, 51, 52, 53, 54, 55, 56, 57, 58, 59, 60, 61] (by decide +kernel) (by decide +kernel)
set_option maxRecDepth 20000 in
theorem gX6_cue_X6_comes : GoodIn wsX6_cue (wsV RX6 104 RX6 yX6_comes wsX6_comes) := goodIn_app (goodIn_of _ (by decide +kernel)) ggX6_cue_X6_comes
theorem dX6_cue_0 : decode cX6_cue 0 = .ok (.aload_n 0, 1) := by decide +kernel
theorem dX6_cue_1 : decode cX6_cue 1 = .ok (.iconst 0, 1) := by decide +kernel
theorem dX6_cue_2 : decode cX6_cue 2 = .ok (.putfield 25, 3) := by decide +kernel
theorem dX6_cue_5 : decode cX6_cue 5 = .ok (.iload_n 2, 1) := by decide +kernel
theorem dX6_cue_6 : decode cX6_cue 6 = .ok (.invokestatic 78, 3) := by decide +kernel
theorem dX6_cue_9 : decode cX6_cue 9 = .ok (.ifCond .ne 9, 3) := by decide +kernel
theorem dX6_cue_12 : decode cX6_cue 12 = .ok (.aload_n 0, 1) := by decide +kernel
theorem dX6_cue_13 : decode cX6_cue 13 = .ok (.iconst 1, 1) := by decide +kernel
theorem dX6_cue_14 : decode cX6_cue 14 = .ok (.invokevirtual 40, 3) := by decide +kernel
theorem dX6_cue_17 : decode cX6_cue 17 = .ok (.ireturn, 1) := by decide +kernel
theorem dX6_cue_18 : decode cX6_cue 18 = .ok (.iload_n 1, 1) := by decide +kernel
theorem dX6_cue_19 : decode cX6_cue 19 = .ok (.invokestatic 97, 3) := by decide +kernel
theorem dX6_cue_22 : decode cX6_cue 22 = .ok (.ifCond .eq 13, 3) := by decide +kernel
theorem dX6_cue_25 : decode cX6_cue 25 = .ok (.iload_n 3, 1) := by decide +kernel
theorem dX6_cue_26 : decode cX6_cue 26 = .ok (.iconst 0, 1) := by decide +kernel
theorem dX6_cue_27 : decode cX6_cue 27 = .ok (.bipush 10, 2) := by decide +kernel
theorem dX6_cue_29 : decode cX6_cue 29 = .ok (.invokestatic 29, 3) := by decide +kernel
theorem dX6_cue_32 : decode cX6_cue 32 = .ok (.ifCond .ne 9, 3) := by decide +kernel
theorem dX6_cue_35 : decode cX6_cue 35 = .ok (.aload_n 0, 1) := by decide +kernel
theorem dX6_cue_36 : decode cX6_cue 36 = .ok (.iconst 2, 1) := by decide +kernel
theorem dX6_cue_37 : decode cX6_cue 37 = .ok (.invokevirtual 40, 3) := by decide +kernel
theorem dX6_cue_40 : decode cX6_cue 40 = .ok (.ireturn, 1) := by decide +kernel
theorem dX6_cue_41 : decode cX6_cue 41 = .ok (.aload_n 0, 1) := by decide +kernel
theorem dX6_cue_42 : decode cX6_cue 42 = .ok (.iload_n 1, 1) := by decide +kernel
theorem dX6_cue_43 : decode cX6_cue 43 = .ok (.iload_n 2, 1) := by decide +kernel
theorem dX6_cue_44 : decode cX6_cue 44 = .ok (.iload_n 3, 1) := by decide +kernel
theorem dX6_cue_45 : decode cX6_cue 45 = .ok (.invokevirtual 100, 3) := by decide +kernel
theorem dX6_cue_48 : decode cX6_cue 48 = .ok (.ifCond .eq 9, 3) := by decide +kernel
theorem dX6_cue_51 : decode cX6_cue 51 = .ok (.aload_n 0, 1) := by decide +kernel
theorem dX6_cue_52 : decode cX6_cue 52 = .ok (.iconst 3, 1) := by decide +kernel
theorem dX6_cue_53 : decode cX6_cue 53 = .ok (.invokevirtual 40, 3) := by decide +kernel
theorem dX6_cue_56 : decode cX6_cue 56 = .ok (.ireturn, 1) := by decide +kernel
theorem dX6_cue_57 : decode cX6_cue 57 = .ok (.aload_n 0, 1) := by decide +kernel
theorem dX6_cue_58 : decode cX6_cue 58 = .ok (.invokevirtual 82, 3) := by decide +kernel
theorem dX6_cue_61 : decode cX6_cue 61 = .ok (.aload_n 0, 1) := by decide +kernel
theorem dX6_cue_62 : decode cX6_cue 62 = .ok (.iload_n 1, 1) := by decide +kernel
theorem dX6_cue_63 : decode cX6_cue 63 = .ok (.iload_n 2, 1) := by decide +kernel
theorem dX6_cue_64 : decode cX6_cue 64 = .ok (.iload_n 3, 1) := by decide +kernel
theorem dX6_cue_65 : decode cX6_cue 65 = .ok (.invokevirtual 104, 3) := by decide +kernel
theorem dX6_cue_68 : decode cX6_cue 68 = .ok (.ireturn, 1) := by decide +kernel
set_option maxRecDepth 20000 in
theorem ggX6_drop_X6_by : GoodIn wsX6_drop wsX6_by := goodIn_r _ [6] (by decide +kernel) (by decide +kernel)
set_option maxRecDepth 20000 in
theorem gX6_drop_X6_by : GoodIn wsX6_drop (va_wsS RX6 58 yX6_by wsX6_by) := goodIn_app (goodIn_of _ (by decide +kernel)) ggX6_drop_X6_by
set_option maxRecDepth 20000 in
theorem ggX6_drop_X6_fails : GoodIn wsX6_drop wsX6_fails := goodIn_r _ [10, 1, 23, 24, 25, 26, 27, 28, 29, 30, 31, 32, 33, 34, 35, 36] (by decide +kernel) (by decide +kernel)
set_option maxRecDepth 20000 in
theorem gX6_drop_X6_fails : GoodIn wsX6_drop (wsV RX6 40 RX6 yX6_fails wsX6_fails) := goodIn_app (goodIn_of _ (by decide +kernel)) ggX6_drop_X6_fails
set_option maxRecDepth 20000 in
theorem ggX6_drop_X6_saves : GoodIn wsX6_drop wsX6_saves := goodIn_r _ [14, 15, 16, 2, 17, 18, 5, 19, 23, 24, 25, 26, 27, 28, 29, 30, 31, 32, 33, 34, 35, 36] (by decide +kernel) (by decide +kernel)
set_option maxRecDepth 20000 in
theorem gX6_drop_X6_saves : GoodIn wsX6_drop (wsV RX6 82 RX6 yX6_saves wsX6_saves) := goodIn_app (goodIn_of _ (by decide +kernel)) ggX6_drop_X6_saves
set_option maxRecDepth 20000 in
theorem ggX6_drop_X6_goesOut : GoodIn wsX6_drop wsX6_goesOut := goodIn_r _ [22] (by decide +kernel) (by decide +kernel)
set_option maxRecDepth 20000 in
theorem gX6_drop_X6_goesOut : GoodIn wsX6_drop (va_wsS RX6 61 yX6_goesOut wsX6_goesOut) := goodIn_app (goodIn_of _ (by decide +kernel)) ggX6_drop_X6_goesOut
theorem dX6_drop_0 : decode cX6_drop 0 = .ok (.aload_n 0, 1) := by decide +kernel
theorem dX6_drop_1 : decode cX6_drop 1 = .ok (.iconst 0, 1) := by decide +kernel
theorem dX6_drop_2 : decode cX6_drop 2 = .ok (.putfield 25, 3) := by decide +kernel
theorem dX6_drop_5 : decode cX6_drop 5 = .ok (.iconst (-1), 1) := by decide +kernel
theorem dX6_drop_6 : decode cX6_drop 6 = .ok (.istore_n 2, 1) := by decide +kernel
theorem dX6_drop_7 : decode cX6_drop 7 = .ok (.iconst 0, 1) := by decide +kernel
theorem dX6_drop_8 : decode cX6_drop 8 = .ok (.istore_n 3, 1) := by decide +kernel
theorem dX6_drop_9 : decode cX6_drop 9 = .ok (.iload_n 3, 1) := by decide +kernel
theorem dX6_drop_10 : decode cX6_drop 10 = .ok (.aload_n 0, 1) := by decide +kernel
theorem dX6_drop_11 : decode cX6_drop 11 = .ok (.getfield 7, 3) := by decide +kernel
theorem dX6_drop_14 : decode cX6_drop 14 = .ok (.bipush 8, 2) := by decide +kernel
theorem dX6_drop_16 : decode cX6_drop 16 = .ok (.iaload, 1) := by decide +kernel
theorem dX6_drop_17 : decode cX6_drop 17 = .ok (.if_icmp .ge 28, 3) := by decide +kernel
theorem dX6_drop_20 : decode cX6_drop 20 = .ok (.aload_n 0, 1) := by decide +kernel
theorem dX6_drop_21 : decode cX6_drop 21 = .ok (.getfield 7, 3) := by decide +kernel
theorem dX6_drop_24 : decode cX6_drop 24 = .ok (.iload_n 3, 1) := by decide +kernel
theorem dX6_drop_25 : decode cX6_drop 25 = .ok (.iconst 0, 1) := by decide +kernel
theorem dX6_drop_26 : decode cX6_drop 26 = .ok (.invokestatic 58, 3) := by decide +kernel
theorem dX6_drop_29 : decode cX6_drop 29 = .ok (.iload_n 1, 1) := by decide +kernel
theorem dX6_drop_30 : decode cX6_drop 30 = .ok (.if_icmp .ne 7, 3) := by decide +kernel
theorem dX6_drop_33 : decode cX6_drop 33 = .ok (.iload_n 3, 1) := by decide +kernel
theorem dX6_drop_34 : decode cX6_drop 34 = .ok (.goto 4, 3) := by decide +kernel
theorem dX6_drop_37 : decode cX6_drop 37 = .ok (.iload_n 2, 1) := by decide +kernel
theorem dX6_drop_38 : decode cX6_drop 38 = .ok (.istore_n 2, 1) := by decide +kernel
theorem dX6_drop_39 : decode cX6_drop 39 = .ok (.iinc 3 1, 3) := by decide +kernel
theorem dX6_drop_42 : decode cX6_drop 42 = .ok (.goto (-33), 3) := by decide +kernel
theorem dX6_drop_45 : decode cX6_drop 45 = .ok (.iload_n 2, 1) := by decide +kernel
theorem dX6_drop_46 : decode cX6_drop 46 = .ok (.iconst (-1), 1) := by decide +kernel
theorem dX6_drop_47 : decode cX6_drop 47 = .ok (.if_icmp .ne 9, 3) := by decide +kernel
theorem dX6_drop_50 : decode cX6_drop 50 = .ok (.aload_n 0, 1) := by decide +kernel
theorem dX6_drop_51 : decode cX6_drop 51 = .ok (.iconst 1, 1) := by decide +kernel
theorem dX6_drop_52 : decode cX6_drop 52 = .ok (.invokevirtual 40, 3) := by decide +kernel
theorem dX6_drop_55 : decode cX6_drop 55 = .ok (.ireturn, 1) := by decide +kernel
theorem dX6_drop_56 : decode cX6_drop 56 = .ok (.aload_n 0, 1) := by decide +kernel
theorem dX6_drop_57 : decode cX6_drop 57 = .ok (.invokevirtual 82, 3) := by decide +kernel
theorem dX6_drop_60 : decode cX6_drop 60 = .ok (.aload_n 0, 1) := by decide +kernel
theorem dX6_drop_61 : decode cX6_drop 61 = .ok (.getfield 7, 3) := by decide +kernel
theorem dX6_drop_64 : decode cX6_drop 64 = .ok (.iload_n 2, 1) := by decide +kernel
theorem dX6_drop_65 : decode cX6_drop 65 = .ok (.invokestatic 61, 3) := by decide +kernel
theorem dX6_drop_68 : decode cX6_drop 68 = .ok (.aload_n 0, 1) := by decide +kernel
theorem dX6_drop_69 : decode cX6_drop 69 = .ok (.getfield 7, 3) := by decide +kernel
theorem dX6_drop_72 : decode cX6_drop 72 = .ok (.bipush 8, 2) := by decide +kernel
theorem dX6_drop_74 : decode cX6_drop 74 = .ok (.iaload, 1) := by decide +kernel
theorem dX6_drop_75 : decode cX6_drop 75 = .ok (.ireturn, 1) := by decide +kernel
set_option maxRecDepth 20000 in
theorem ggX6_play_X6_in : GoodIn wsX6_play wsX6_in := goodIn_r _ [6] (by decide +kernel) (by decide +kernel)
set_option maxRecDepth 20000 in
theorem gX6_play_X6_in : GoodIn wsX6_play (va_wsS RX6 29 yX6_in wsX6_in) := goodIn_app (goodIn_of _ (by decide +kernel)) ggX6_play_X6_in
set_option maxRecDepth 20000 in
theorem ggX6_play_X6_fails : GoodIn wsX6_play wsX6_fails := goodIn_r _ [10, 1, 50, 51, 52, 53, 54, 55, 56, 57, 58, 59, 60, 61, 62, 63] (by decide +kernel) (by decide +kernel)
set_option maxRecDepth 20000 in
theorem gX6_play_X6_fails : GoodIn wsX6_play (wsV RX6 40 RX6 yX6_fails wsX6_fails) := goodIn_app (goodIn_of _ (by decide +kernel)) ggX6_play_X6_fails
set_option maxRecDepth 20000 in
theorem ggX6_play_X6_saves : GoodIn wsX6_play wsX6_saves := goodIn_r _ [14, 15, 16, 2, 17, 18, 5, 19, 50, 51, 52, 53, 54, 55, 56, 57, 58, 59, 60, 61, 62, 63] (by decide +kernel) (by decide +kernel)
set_option maxRecDepth 20000 in
theorem gX6_play_X6_saves : GoodIn wsX6_play (wsV RX6 82 RX6 yX6_saves wsX6_saves) := goodIn_app (goodIn_of _ (by decide +kernel)) ggX6_play_X6_saves
set_option maxRecDepth 20000 in
theorem ggX6_play_X6_tick : GoodIn wsX6_play wsX6_tick := goodIn_r _ [23, 24, 25, 26, 27, 5, 28, 29, 30, 31, 32, 33, 34, 35, 36, 37, 38, 39, 40, 41, 42, 43, 44, 45, 46, 47, 48, 49, 50, 51, 52, 53, 54, 55, 56, 57, 58, 59, 60, 61, 62, 63] (by decide +kernel) (by decide +kernel)
set_option maxRecDepth 20000 in
theorem gX6_play_X6_tick : GoodIn wsX6_play (wsV RX6 107 RX6 yX6_tick wsX6_tick) := goodIn_app (goodIn_of _ (by decide +kernel)) ggX6_play_X6_tick
theorem dX6_play_0 : decode cX6_play 0 = .ok (.aload_n 0, 1) := by decide +kernel
theorem dX6_play_1 : decode cX6_play 1 = .ok (.iconst 0, 1) := by decide +kernel
theorem dX6_play_2 : decode cX6_play 2 = .ok (.putfield 25, 3) := by decide +kernel
theorem dX6_play_5 : decode cX6_play 5 = .ok (.iload_n 1, 1) := by decide +kernel
theorem dX6_play_6 : decode cX6_play 6 = .ok (.iconst 1, 1) := by decide +kernel
theorem dX6_play_7 : decode cX6_play 7 = .ok (.bipush 100, 2) := by decide +kernel
theorem dX6_play_9 : decode cX6_play 9 = .ok (.invokestatic 29, 3) := by decide +kernel
theorem dX6_play_12 : decode cX6_play 12 = .ok (.ifCond .ne 9, 3) := by decide +kernel
theorem dX6_play_15 : decode cX6_play 15 = .ok (.aload_n 0, 1) := by decide +kernel
theorem dX6_play_16 : decode cX6_play 16 = .ok (.iconst 1, 1) := by decide +kernel
theorem dX6_play_17 : decode cX6_play 17 = .ok (.invokevirtual 40, 3) := by decide +kernel
theorem dX6_play_20 : decode cX6_play 20 = .ok (.ireturn, 1) := by decide +kernel
theorem dX6_play_21 : decode cX6_play 21 = .ok (.aload_n 0, 1) := by decide +kernel
theorem dX6_play_22 : decode cX6_play 22 = .ok (.invokevirtual 82, 3) := by decide +kernel
theorem dX6_play_25 : decode cX6_play 25 = .ok (.aload_n 0, 1) := by decide +kernel
theorem dX6_play_26 : decode cX6_play 26 = .ok (.getfield 7, 3) := by decide +kernel
theorem dX6_play_29 : decode cX6_play 29 = .ok (.bipush 10, 2) := by decide +kernel
theorem dX6_play_31 : decode cX6_play 31 = .ok (.iaload, 1) := by decide +kernel
theorem dX6_play_32 : decode cX6_play 32 = .ok (.istore_n 2, 1) := by decide +kernel
theorem dX6_play_33 : decode cX6_play 33 = .ok (.iconst 0, 1) := by decide +kernel
theorem dX6_play_34 : decode cX6_play 34 = .ok (.istore_n 3, 1) := by decide +kernel
theorem dX6_play_35 : decode cX6_play 35 = .ok (.iload_n 3, 1) := by decide +kernel
theorem dX6_play_36 : decode cX6_play 36 = .ok (.iload_n 1, 1) := by decide +kernel
theorem dX6_play_37 : decode cX6_play 37 = .ok (.if_icmp .ge 17, 3) := by decide +kernel
theorem dX6_play_40 : decode cX6_play 40 = .ok (.aload_n 0, 1) := by decide +kernel
theorem dX6_play_41 : decode cX6_play 41 = .ok (.aload_n 0, 1) := by decide +kernel
theorem dX6_play_42 : decode cX6_play 42 = .ok (.getfield 7, 3) := by decide +kernel
theorem dX6_play_45 : decode cX6_play 45 = .ok (.invokevirtual 107, 3) := by decide +kernel
theorem dX6_play_48 : decode cX6_play 48 = .ok (.iinc 3 1, 3) := by decide +kernel
theorem dX6_play_51 : decode cX6_play 51 = .ok (.goto (-16), 3) := by decide +kernel
theorem dX6_play_54 : decode cX6_play 54 = .ok (.aload_n 0, 1) := by decide +kernel
theorem dX6_play_55 : decode cX6_play 55 = .ok (.getfield 7, 3) := by decide +kernel
theorem dX6_play_58 : decode cX6_play 58 = .ok (.bipush 10, 2) := by decide +kernel
theorem dX6_play_60 : decode cX6_play 60 = .ok (.iaload, 1) := by decide +kernel
theorem dX6_play_61 : decode cX6_play 61 = .ok (.iload_n 2, 1) := by decide +kernel
theorem dX6_play_62 : decode cX6_play 62 = .ok (.isub, 1) := by decide +kernel
theorem dX6_play_63 : decode cX6_play 63 = .ok (.ireturn, 1) := by decide +kernel
set_option maxRecDepth 20000 in
theorem ggX6_append_X6_in : GoodIn wsX6_append wsX6_in := goodIn_r _ [7] (by decide +kernel) (by decide +kernel)
set_option maxRecDepth 20000 in
theorem gX6_append_X6_in : GoodIn wsX6_append (va_wsS RX6 29 yX6_in wsX6_in) := goodIn_app (goodIn_of _ (by decide +kernel)) ggX6_append_X6_in
set_option maxRecDepth 20000 in
theorem ggX6_append_X6_fails : GoodIn wsX6_append wsX6_fails := goodIn_r _ [11, 1, 12, 13, 14, 15, 16, 17, 18, 19, 20, 21, 22, 23, 24, 25] (by decide +kernel) (by decide +kernel)
set_option maxRecDepth 20000 in
theorem gX6_append_X6_fails : GoodIn wsX6_append (wsV RX6 40 RX6 yX6_fails wsX6_fails) := goodIn_app (goodIn_of _ (by decide +kernel)) ggX6_append_X6_fails
theorem dX6_append_0 : decode cX6_append 0 = .ok (.aload_n 0, 1) := by decide +kernel
theorem dX6_append_1 : decode cX6_append 1 = .ok (.iconst 0, 1) := by decide +kernel
theorem dX6_append_2 : decode cX6_append 2 = .ok (.putfield 25, 3) := by decide +kernel
theorem dX6_append_5 : decode cX6_append 5 = .ok (.iload_n 1, 1) := by decide +kernel
theorem dX6_append_6 : decode cX6_append 6 = .ok (.bipush 33, 2) := by decide +kernel
theorem dX6_append_8 : decode cX6_append 8 = .ok (.bipush 126, 2) := by decide +kernel
theorem dX6_append_10 : decode cX6_append 10 = .ok (.invokestatic 29, 3) := by decide +kernel
theorem dX6_append_13 : decode cX6_append 13 = .ok (.ifCond .ne 9, 3) := by decide +kernel
theorem dX6_append_16 : decode cX6_append 16 = .ok (.aload_n 0, 1) := by decide +kernel
theorem dX6_append_17 : decode cX6_append 17 = .ok (.iconst 1, 1) := by decide +kernel
theorem dX6_append_18 : decode cX6_append 18 = .ok (.invokevirtual 40, 3) := by decide +kernel
theorem dX6_append_21 : decode cX6_append 21 = .ok (.ireturn, 1) := by decide +kernel
theorem dX6_append_22 : decode cX6_append 22 = .ok (.aload_n 0, 1) := by decide +kernel
theorem dX6_append_23 : decode cX6_append 23 = .ok (.getfield 111, 3) := by decide +kernel
theorem dX6_append_26 : decode cX6_append 26 = .ok (.bipush 60, 2) := by decide +kernel
theorem dX6_append_28 : decode cX6_append 28 = .ok (.if_icmp .ne 9, 3) := by decide +kernel
theorem dX6_append_31 : decode cX6_append 31 = .ok (.aload_n 0, 1) := by decide +kernel
theorem dX6_append_32 : decode cX6_append 32 = .ok (.iconst 2, 1) := by decide +kernel
theorem dX6_append_33 : decode cX6_append 33 = .ok (.invokevirtual 40, 3) := by decide +kernel
theorem dX6_append_36 : decode cX6_append 36 = .ok (.ireturn, 1) := by decide +kernel
theorem dX6_append_37 : decode cX6_append 37 = .ok (.aload_n 0, 1) := by decide +kernel
theorem dX6_append_38 : decode cX6_append 38 = .ok (.getfield 19, 3) := by decide +kernel
theorem dX6_append_41 : decode cX6_append 41 = .ok (.aload_n 0, 1) := by decide +kernel
theorem dX6_append_42 : decode cX6_append 42 = .ok (.getfield 111, 3) := by decide +kernel
theorem dX6_append_45 : decode cX6_append 45 = .ok (.iload_n 1, 1) := by decide +kernel
theorem dX6_append_46 : decode cX6_append 46 = .ok (.iastore, 1) := by decide +kernel
theorem dX6_append_47 : decode cX6_append 47 = .ok (.aload_n 0, 1) := by decide +kernel
theorem dX6_append_48 : decode cX6_append 48 = .ok (.dup, 1) := by decide +kernel
theorem dX6_append_49 : decode cX6_append 49 = .ok (.getfield 111, 3) := by decide +kernel
theorem dX6_append_52 : decode cX6_append 52 = .ok (.iconst 1, 1) := by decide +kernel
theorem dX6_append_53 : decode cX6_append 53 = .ok (.iadd, 1) := by decide +kernel
theorem dX6_append_54 : decode cX6_append 54 = .ok (.putfield 111, 3) := by decide +kernel
theorem dX6_append_57 : decode cX6_append 57 = .ok (.aload_n 0, 1) := by decide +kernel
theorem dX6_append_58 : decode cX6_append 58 = .ok (.getfield 111, 3) := by decide +kernel
theorem dX6_append_61 : decode cX6_append 61 = .ok (.ireturn, 1) := by decide +kernel
theorem dX6_clearBuffer_0 : decode cX6_clearBuffer 0 = .ok (.aload_n 0, 1) := by decide +kernel
theorem dX6_clearBuffer_1 : decode cX6_clearBuffer 1 = .ok (.iconst 0, 1) := by decide +kernel
theorem dX6_clearBuffer_2 : decode cX6_clearBuffer 2 = .ok (.putfield 25, 3) := by decide +kernel
theorem dX6_clearBuffer_5 : decode cX6_clearBuffer 5 = .ok (.aload_n 0, 1) := by decide +kernel
theorem dX6_clearBuffer_6 : decode cX6_clearBuffer 6 = .ok (.getfield 111, 3) := by decide +kernel
theorem dX6_clearBuffer_9 : decode cX6_clearBuffer 9 = .ok (.istore_n 1, 1) := by decide +kernel
theorem dX6_clearBuffer_10 : decode cX6_clearBuffer 10 = .ok (.aload_n 0, 1) := by decide +kernel
theorem dX6_clearBuffer_11 : decode cX6_clearBuffer 11 = .ok (.iconst 0, 1) := by decide +kernel
theorem dX6_clearBuffer_12 : decode cX6_clearBuffer 12 = .ok (.putfield 111, 3) := by decide +kernel
theorem dX6_clearBuffer_15 : decode cX6_clearBuffer 15 = .ok (.iload_n 1, 1) := by decide +kernel
theorem dX6_clearBuffer_16 : decode cX6_clearBuffer 16 = .ok (.ireturn, 1) := by decide +kernel
set_option maxRecDepth 20000 in
theorem ggX6_isAt_X6_in : GoodIn wsX6_isAt wsX6_in := goodIn_r _ [7] (by decide +kernel) (by decide +kernel)
set_option maxRecDepth 20000 in
theorem gX6_isAt_X6_in : GoodIn wsX6_isAt (va_wsS RX6 29 yX6_in wsX6_in) := goodIn_app (goodIn_of _ (by decide +kernel)) ggX6_isAt_X6_in
theorem dX6_isAt_0 : decode cX6_isAt 0 = .ok (.aload_n 0, 1) := by decide +kernel
theorem dX6_isAt_1 : decode cX6_isAt 1 = .ok (.getfield 114, 3) := by decide +kernel
theorem dX6_isAt_4 : decode cX6_isAt 4 = .ok (.aload_n 0, 1) := by decide +kernel
theorem dX6_isAt_5 : decode cX6_isAt 5 = .ok (.getfield 111, 3) := by decide +kernel
theorem dX6_isAt_8 : decode cX6_isAt 8 = .ok (.if_icmp .ge 24, 3) := by decide +kernel
theorem dX6_isAt_11 : decode cX6_isAt 11 = .ok (.aload_n 0, 1) := by decide +kernel
theorem dX6_isAt_12 : decode cX6_isAt 12 = .ok (.getfield 19, 3) := by decide +kernel
theorem dX6_isAt_15 : decode cX6_isAt 15 = .ok (.aload_n 0, 1) := by decide +kernel
theorem dX6_isAt_16 : decode cX6_isAt 16 = .ok (.getfield 114, 3) := by decide +kernel
theorem dX6_isAt_19 : decode cX6_isAt 19 = .ok (.iaload, 1) := by decide +kernel
theorem dX6_isAt_20 : decode cX6_isAt 20 = .ok (.iload_n 1, 1) := by decide +kernel
theorem dX6_isAt_21 : decode cX6_isAt 21 = .ok (.iload_n 2, 1) := by decide +kernel
theorem dX6_isAt_22 : decode cX6_isAt 22 = .ok (.invokestatic 29, 3) := by decide +kernel
theorem dX6_isAt_25 : decode cX6_isAt 25 = .ok (.ifCond .eq 7, 3) := by decide +kernel
theorem dX6_isAt_28 : decode cX6_isAt 28 = .ok (.iconst 1, 1) := by decide +kernel
theorem dX6_isAt_29 : decode cX6_isAt 29 = .ok (.goto 4, 3) := by decide +kernel
theorem dX6_isAt_32 : decode cX6_isAt 32 = .ok (.iconst 0, 1) := by decide +kernel
theorem dX6_isAt_33 : decode cX6_isAt 33 = .ok (.ireturn, 1) := by decide +kernel
theorem dX6_stops_0 : decode cX6_stops 0 = .ok (.aload_n 0, 1) := by decide +kernel
theorem dX6_stops_1 : decode cX6_stops 1 = .ok (.aload_n 0, 1) := by decide +kernel
theorem dX6_stops_2 : decode cX6_stops 2 = .ok (.getfield 114, 3) := by decide +kernel
theorem dX6_stops_5 : decode cX6_stops 5 = .ok (.aload_n 0, 1) := by decide +kernel
theorem dX6_stops_6 : decode cX6_stops 6 = .ok (.getfield 111, 3) := by decide +kernel
theorem dX6_stops_9 : decode cX6_stops 9 = .ok (.if_icmp .ge 7, 3) := by decide +kernel
theorem dX6_stops_12 : decode cX6_stops 12 = .ok (.iconst 1, 1) := by decide +kernel
theorem dX6_stops_13 : decode cX6_stops 13 = .ok (.goto 4, 3) := by decide +kernel
theorem dX6_stops_16 : decode cX6_stops 16 = .ok (.iconst 0, 1) := by decide +kernel
theorem dX6_stops_17 : decode cX6_stops 17 = .ok (.putfield 117, 3) := by decide +kernel
theorem dX6_stops_20 : decode cX6_stops 20 = .ok (.iconst 0, 1) := by decide +kernel
theorem dX6_stops_21 : decode cX6_stops 21 = .ok (.ireturn, 1) := by decide +kernel
set_option maxRecDepth 20000 in
theorem ggX6_isNumber_X6_isAt : GoodIn wsX6_isNumber wsX6_isAt := goodIn_r _ [10, 2, 11, 1, 12, 13, 9, 14, 20, 21, 22, 23, 24, 25, 26, 27, 28, 29, 30, 31, 32, 33] (by decide +kernel) (by decide +kernel)
set_option maxRecDepth 20000 in
theorem gX6_isNumber_X6_isAt : GoodIn wsX6_isNumber (wsV RX6 121 RX6 yX6_isAt wsX6_isAt) := goodIn_app (goodIn_of _ (by decide +kernel)) ggX6_isNumber_X6_isAt
set_option maxRecDepth 20000 in
theorem ggX6_isNumber_X6_stops : GoodIn wsX6_isNumber wsX6_stops := goodIn_r _ [18, 2, 11, 19, 20, 21, 22, 23, 24, 25, 26, 27, 28, 29, 30, 31, 32, 33] (by decide +kernel) (by decide +kernel)
set_option maxRecDepth 20000 in
theorem gX6_isNumber_X6_stops : GoodIn wsX6_isNumber (wsV RX6 124 RX6 yX6_stops wsX6_stops) := goodIn_app (goodIn_of _ (by decide +kernel)) ggX6_isNumber_X6_stops
theorem dX6_isNumber_0 : decode cX6_isNumber 0 = .ok (.aload_n 0, 1) := by decide +kernel
theorem dX6_isNumber_1 : decode cX6_isNumber 1 = .ok (.bipush 48, 2) := by decide +kernel
theorem dX6_isNumber_3 : decode cX6_isNumber 3 = .ok (.bipush 57, 2) := by decide +kernel
theorem dX6_isNumber_5 : decode cX6_isNumber 5 = .ok (.invokevirtual 121, 3) := by decide +kernel
theorem dX6_isNumber_8 : decode cX6_isNumber 8 = .ok (.ifCond .ne 8, 3) := by decide +kernel
theorem dX6_isNumber_11 : decode cX6_isNumber 11 = .ok (.aload_n 0, 1) := by decide +kernel
theorem dX6_isNumber_12 : decode cX6_isNumber 12 = .ok (.invokevirtual 124, 3) := by decide +kernel
theorem dX6_isNumber_15 : decode cX6_isNumber 15 = .ok (.ireturn, 1) := by decide +kernel
theorem dX6_isNumber_16 : decode cX6_isNumber 16 = .ok (.aload_n 0, 1) := by decide +kernel
theorem dX6_isNumber_17 : decode cX6_isNumber 17 = .ok (.aload_n 0, 1) := by decide +kernel
theorem dX6_isNumber_18 : decode cX6_isNumber 18 = .ok (.getfield 19, 3) := by decide +kernel
theorem dX6_isNumber_21 : decode cX6_isNumber 21 = .ok (.aload_n 0, 1) := by decide +kernel
theorem dX6_isNumber_22 : decode cX6_isNumber 22 = .ok (.getfield 114, 3) := by decide +kernel
theorem dX6_isNumber_25 : decode cX6_isNumber 25 = .ok (.iaload, 1) := by decide +kernel
theorem dX6_isNumber_26 : decode cX6_isNumber 26 = .ok (.bipush 48, 2) := by decide +kernel
theorem dX6_isNumber_28 : decode cX6_isNumber 28 = .ok (.isub, 1) := by decide +kernel
theorem dX6_isNumber_29 : decode cX6_isNumber 29 = .ok (.putfield 128, 3) := by decide +kernel
theorem dX6_isNumber_32 : decode cX6_isNumber 32 = .ok (.aload_n 0, 1) := by decide +kernel
theorem dX6_isNumber_33 : decode cX6_isNumber 33 = .ok (.dup, 1) := by decide +kernel
theorem dX6_isNumber_34 : decode cX6_isNumber 34 = .ok (.getfield 114, 3) := by decide +kernel
theorem dX6_isNumber_37 : decode cX6_isNumber 37 = .ok (.iconst 1, 1) := by decide +kernel
theorem dX6_isNumber_38 : decode cX6_isNumber 38 = .ok (.iadd, 1) := by decide +kernel
theorem dX6_isNumber_39 : decode cX6_isNumber 39 = .ok (.putfield 114, 3) := by decide +kernel
theorem dX6_isNumber_42 : decode cX6_isNumber 42 = .ok (.aload_n 0, 1) := by decide +kernel
theorem dX6_isNumber_43 : decode cX6_isNumber 43 = .ok (.getfield 128, 3) := by decide +kernel
theorem dX6_isNumber_46 : decode cX6_isNumber 46 = .ok (.ifCond .le 75, 3) := by decide +kernel
theorem dX6_isNumber_49 : decode cX6_isNumber 49 = .ok (.aload_n 0, 1) := by decide +kernel
theorem dX6_isNumber_50 : decode cX6_isNumber 50 = .ok (.bipush 48, 2) := by decide +kernel
theorem dX6_isNumber_52 : decode cX6_isNumber 52 = .ok (.bipush 57, 2) := by decide +kernel
theorem dX6_isNumber_54 : decode cX6_isNumber 54 = .ok (.invokevirtual 121, 3) := by decide +kernel
theorem dX6_isNumber_57 : decode cX6_isNumber 57 = .ok (.ifCond .eq 64, 3) := by decide +kernel
theorem dX6_isNumber_60 : decode cX6_isNumber 60 = .ok (.bipush 10, 2) := by decide +kernel
theorem dX6_isNumber_62 : decode cX6_isNumber 62 = .ok (.aload_n 0, 1) := by decide +kernel
theorem dX6_isNumber_63 : decode cX6_isNumber 63 = .ok (.getfield 128, 3) := by decide +kernel
theorem dX6_isNumber_66 : decode cX6_isNumber 66 = .ok (.imul, 1) := by decide +kernel
theorem dX6_isNumber_67 : decode cX6_isNumber 67 = .ok (.aload_n 0, 1) := by decide +kernel
theorem dX6_isNumber_68 : decode cX6_isNumber 68 = .ok (.getfield 19, 3) := by decide +kernel
theorem dX6_isNumber_71 : decode cX6_isNumber 71 = .ok (.aload_n 0, 1) := by decide +kernel
theorem dX6_isNumber_72 : decode cX6_isNumber 72 = .ok (.getfield 114, 3) := by decide +kernel
theorem dX6_isNumber_75 : decode cX6_isNumber 75 = .ok (.iaload, 1) := by decide +kernel
theorem dX6_isNumber_76 : decode cX6_isNumber 76 = .ok (.iadd, 1) := by decide +kernel
theorem dX6_isNumber_77 : decode cX6_isNumber 77 = .ok (.bipush 48, 2) := by decide +kernel
theorem dX6_isNumber_79 : decode cX6_isNumber 79 = .ok (.isub, 1) := by decide +kernel
theorem dX6_isNumber_80 : decode cX6_isNumber 80 = .ok (.iload_n 2, 1) := by decide +kernel
theorem dX6_isNumber_81 : decode cX6_isNumber 81 = .ok (.if_icmp .gt 40, 3) := by decide +kernel
theorem dX6_isNumber_84 : decode cX6_isNumber 84 = .ok (.aload_n 0, 1) := by decide +kernel
theorem dX6_isNumber_85 : decode cX6_isNumber 85 = .ok (.bipush 10, 2) := by decide +kernel
theorem dX6_isNumber_87 : decode cX6_isNumber 87 = .ok (.aload_n 0, 1) := by decide +kernel
theorem dX6_isNumber_88 : decode cX6_isNumber 88 = .ok (.getfield 128, 3) := by decide +kernel
theorem dX6_isNumber_91 : decode cX6_isNumber 91 = .ok (.imul, 1) := by decide +kernel
theorem dX6_isNumber_92 : decode cX6_isNumber 92 = .ok (.aload_n 0, 1) := by decide +kernel
theorem dX6_isNumber_93 : decode cX6_isNumber 93 = .ok (.getfield 19, 3) := by decide +kernel
theorem dX6_isNumber_96 : decode cX6_isNumber 96 = .ok (.aload_n 0, 1) := by decide +kernel
theorem dX6_isNumber_97 : decode cX6_isNumber 97 = .ok (.getfield 114, 3) := by decide +kernel
theorem dX6_isNumber_100 : decode cX6_isNumber 100 = .ok (.iaload, 1) := by decide +kernel
theorem dX6_isNumber_101 : decode cX6_isNumber 101 = .ok (.iadd, 1) := by decide +kernel
theorem dX6_isNumber_102 : decode cX6_isNumber 102 = .ok (.bipush 48, 2) := by decide +kernel
theorem dX6_isNumber_104 : decode cX6_isNumber 104 = .ok (.isub, 1) := by decide +kernel
theorem dX6_isNumber_105 : decode cX6_isNumber 105 = .ok (.putfield 128, 3) := by decide +kernel
theorem dX6_isNumber_108 : decode cX6_isNumber 108 = .ok (.aload_n 0, 1) := by decide +kernel
theorem dX6_isNumber_109 : decode cX6_isNumber 109 = .ok (.dup, 1) := by decide +kernel
theorem dX6_isNumber_110 : decode cX6_isNumber 110 = .ok (.getfield 114, 3) := by decide +kernel
theorem dX6_isNumber_113 : decode cX6_isNumber 113 = .ok (.iconst 1, 1) := by decide +kernel
theorem dX6_isNumber_114 : decode cX6_isNumber 114 = .ok (.iadd, 1) := by decide +kernel
theorem dX6_isNumber_115 : decode cX6_isNumber 115 = .ok (.putfield 114, 3) := by decide +kernel
theorem dX6_isNumber_118 : decode cX6_isNumber 118 = .ok (.goto (-76), 3) := by decide +kernel
theorem dX6_isNumber_121 : decode cX6_isNumber 121 = .ok (.aload_n 0, 1) := by decide +kernel
theorem dX6_isNumber_122 : decode cX6_isNumber 122 = .ok (.getfield 22, 3) := by decide +kernel
theorem dX6_isNumber_125 : decode cX6_isNumber 125 = .ok (.iconst 3, 1) := by decide +kernel
theorem dX6_isNumber_126 : decode cX6_isNumber 126 = .ok (.aload_n 0, 1) := by decide +kernel
theorem dX6_isNumber_127 : decode cX6_isNumber 127 = .ok (.getfield 131, 3) := by decide +kernel
theorem dX6_isNumber_130 : decode cX6_isNumber 130 = .ok (.imul, 1) := by decide +kernel
theorem dX6_isNumber_131 : decode cX6_isNumber 131 = .ok (.iload_n 1, 1) := by decide +kernel
theorem dX6_isNumber_132 : decode cX6_isNumber 132 = .ok (.iadd, 1) := by decide +kernel
theorem dX6_isNumber_133 : decode cX6_isNumber 133 = .ok (.aload_n 0, 1) := by decide +kernel
theorem dX6_isNumber_134 : decode cX6_isNumber 134 = .ok (.getfield 128, 3) := by decide +kernel
theorem dX6_isNumber_137 : decode cX6_isNumber 137 = .ok (.iastore, 1) := by decide +kernel
theorem dX6_isNumber_138 : decode cX6_isNumber 138 = .ok (.iconst 1, 1) := by decide +kernel
theorem dX6_isNumber_139 : decode cX6_isNumber 139 = .ok (.ireturn, 1) := by decide +kernel
set_option maxRecDepth 20000 in
theorem ggX6_isPart_X6_isNumber : GoodIn wsX6_isPart wsX6_isNumber := goodIn_r _ [9, 4, 1, 10, 2, 3, 11, 12, 13, 8, 14, 15, 16, 17, 18, 19, 20, 21, 22, 23, 24, 25, 26, 27, 28, 29, 30, 31, 32, 33, 34, 35, 36, 37] (by decide +kernel) (by decide +kernel)
set_option maxRecDepth 20000 in
theorem gX6_isPart_X6_isNumber : GoodIn wsX6_isPart (wsV RX6 134 RX6 yX6_isNumber wsX6_isNumber) := goodIn_app (goodIn_of _ (by decide +kernel)) ggX6_isPart_X6_isNumber
set_option maxRecDepth 20000 in
theorem ggX6_isPart_X6_isAt : GoodIn wsX6_isPart wsX6_isAt := goodIn_r _ [14, 1, 15, 4, 16, 17, 8, 18, 24, 25, 26, 27, 28, 29, 30, 31, 32, 33, 34, 35, 36, 37] (by decide +kernel) (by decide +kernel)
set_option maxRecDepth 20000 in
theorem gX6_isPart_X6_isAt : GoodIn wsX6_isPart (wsV RX6 121 RX6 yX6_isAt wsX6_isAt) := goodIn_app (goodIn_of _ (by decide +kernel)) ggX6_isPart_X6_isAt
set_option maxRecDepth 20000 in
theorem ggX6_isPart_X6_stops : GoodIn wsX6_isPart wsX6_stops := goodIn_r _ [22, 1, 15, 23, 24, 25, 26, 27, 28, 29, 30, 31, 32, 33, 34, 35, 36, 37] (by decide +kernel) (by decide +kernel)
set_option maxRecDepth 20000 in
theorem gX6_isPart_X6_stops : GoodIn wsX6_isPart (wsV RX6 124 RX6 yX6_stops wsX6_stops) := goodIn_app (goodIn_of _ (by decide +kernel)) ggX6_isPart_X6_stops
theorem dX6_isPart_0 : decode cX6_isPart 0 = .ok (.aload_n 0, 1) := by decide +kernel
theorem dX6_isPart_1 : decode cX6_isPart 1 = .ok (.iconst 0, 1) := by decide +kernel
theorem dX6_isPart_2 : decode cX6_isPart 2 = .ok (.sipush 999, 3) := by decide +kernel
theorem dX6_isPart_5 : decode cX6_isPart 5 = .ok (.invokevirtual 134, 3) := by decide +kernel
theorem dX6_isPart_8 : decode cX6_isPart 8 = .ok (.ifCond .ne 5, 3) := by decide +kernel
theorem dX6_isPart_11 : decode cX6_isPart 11 = .ok (.iconst 0, 1) := by decide +kernel
theorem dX6_isPart_12 : decode cX6_isPart 12 = .ok (.ireturn, 1) := by decide +kernel
theorem dX6_isPart_13 : decode cX6_isPart 13 = .ok (.aload_n 0, 1) := by decide +kernel
theorem dX6_isPart_14 : decode cX6_isPart 14 = .ok (.bipush 64, 2) := by decide +kernel
theorem dX6_isPart_16 : decode cX6_isPart 16 = .ok (.bipush 64, 2) := by decide +kernel
theorem dX6_isPart_18 : decode cX6_isPart 18 = .ok (.invokevirtual 121, 3) := by decide +kernel
theorem dX6_isPart_21 : decode cX6_isPart 21 = .ok (.ifCond .ne 8, 3) := by decide +kernel
theorem dX6_isPart_24 : decode cX6_isPart 24 = .ok (.aload_n 0, 1) := by decide +kernel
theorem dX6_isPart_25 : decode cX6_isPart 25 = .ok (.invokevirtual 124, 3) := by decide +kernel
theorem dX6_isPart_28 : decode cX6_isPart 28 = .ok (.ireturn, 1) := by decide +kernel
theorem dX6_isPart_29 : decode cX6_isPart 29 = .ok (.aload_n 0, 1) := by decide +kernel
theorem dX6_isPart_30 : decode cX6_isPart 30 = .ok (.dup, 1) := by decide +kernel
theorem dX6_isPart_31 : decode cX6_isPart 31 = .ok (.getfield 114, 3) := by decide +kernel
theorem dX6_isPart_34 : decode cX6_isPart 34 = .ok (.iconst 1, 1) := by decide +kernel
theorem dX6_isPart_35 : decode cX6_isPart 35 = .ok (.iadd, 1) := by decide +kernel
theorem dX6_isPart_36 : decode cX6_isPart 36 = .ok (.putfield 114, 3) := by decide +kernel
theorem dX6_isPart_39 : decode cX6_isPart 39 = .ok (.aload_n 0, 1) := by decide +kernel
theorem dX6_isPart_40 : decode cX6_isPart 40 = .ok (.bipush 97, 2) := by decide +kernel
theorem dX6_isPart_42 : decode cX6_isPart 42 = .ok (.bipush 104, 2) := by decide +kernel
theorem dX6_isPart_44 : decode cX6_isPart 44 = .ok (.invokevirtual 121, 3) := by decide +kernel
theorem dX6_isPart_47 : decode cX6_isPart 47 = .ok (.ifCond .ne 8, 3) := by decide +kernel
theorem dX6_isPart_50 : decode cX6_isPart 50 = .ok (.aload_n 0, 1) := by decide +kernel
theorem dX6_isPart_51 : decode cX6_isPart 51 = .ok (.invokevirtual 124, 3) := by decide +kernel
theorem dX6_isPart_54 : decode cX6_isPart 54 = .ok (.ireturn, 1) := by decide +kernel
theorem dX6_isPart_55 : decode cX6_isPart 55 = .ok (.aload_n 0, 1) := by decide +kernel
theorem dX6_isPart_56 : decode cX6_isPart 56 = .ok (.getfield 22, 3) := by decide +kernel
theorem dX6_isPart_59 : decode cX6_isPart 59 = .ok (.iconst 3, 1) := by decide +kernel
theorem dX6_isPart_60 : decode cX6_isPart 60 = .ok (.aload_n 0, 1) := by decide +kernel
theorem dX6_isPart_61 : decode cX6_isPart 61 = .ok (.getfield 131, 3) := by decide +kernel
theorem dX6_isPart_64 : decode cX6_isPart 64 = .ok (.imul, 1) := by decide +kernel
theorem dX6_isPart_65 : decode cX6_isPart 65 = .ok (.iconst 1, 1) := by decide +kernel
theorem dX6_isPart_66 : decode cX6_isPart 66 = .ok (.iadd, 1) := by decide +kernel
theorem dX6_isPart_67 : decode cX6_isPart 67 = .ok (.aload_n 0, 1) := by decide +kernel
theorem dX6_isPart_68 : decode cX6_isPart 68 = .ok (.getfield 19, 3) := by decide +kernel
theorem dX6_isPart_71 : decode cX6_isPart 71 = .ok (.aload_n 0, 1) := by decide +kernel
theorem dX6_isPart_72 : decode cX6_isPart 72 = .ok (.getfield 114, 3) := by decide +kernel
theorem dX6_isPart_75 : decode cX6_isPart 75 = .ok (.iaload, 1) := by decide +kernel
theorem dX6_isPart_76 : decode cX6_isPart 76 = .ok (.bipush 97, 2) := by decide +kernel
theorem dX6_isPart_78 : decode cX6_isPart 78 = .ok (.isub, 1) := by decide +kernel
theorem dX6_isPart_79 : decode cX6_isPart 79 = .ok (.iastore, 1) := by decide +kernel
theorem dX6_isPart_80 : decode cX6_isPart 80 = .ok (.aload_n 0, 1) := by decide +kernel
theorem dX6_isPart_81 : decode cX6_isPart 81 = .ok (.dup, 1) := by decide +kernel
theorem dX6_isPart_82 : decode cX6_isPart 82 = .ok (.getfield 114, 3) := by decide +kernel
theorem dX6_isPart_85 : decode cX6_isPart 85 = .ok (.iconst 1, 1) := by decide +kernel
theorem dX6_isPart_86 : decode cX6_isPart 86 = .ok (.iadd, 1) := by decide +kernel
theorem dX6_isPart_87 : decode cX6_isPart 87 = .ok (.putfield 114, 3) := by decide +kernel
theorem dX6_isPart_90 : decode cX6_isPart 90 = .ok (.aload_n 0, 1) := by decide +kernel
theorem dX6_isPart_91 : decode cX6_isPart 91 = .ok (.iconst 2, 1) := by decide +kernel
theorem dX6_isPart_92 : decode cX6_isPart 92 = .ok (.bipush 10, 2) := by decide +kernel
theorem dX6_isPart_94 : decode cX6_isPart 94 = .ok (.invokevirtual 134, 3) := by decide +kernel
theorem dX6_isPart_97 : decode cX6_isPart 97 = .ok (.ireturn, 1) := by decide +kernel
set_option maxRecDepth 20000 in
theorem ggX6_isText_X6_isPart : GoodIn wsX6_isText wsX6_isPart := goodIn_r _ [9, 1, 10, 2, 11, 12, 13, 14, 8, 15, 16, 17, 18, 19, 20, 4, 21, 22, 23, 24, 25, 26, 27, 3, 28, 29, 30, 31, 32, 33, 34, 35, 36, 37, 38, 39, 40, 41] (by decide +kernel) (by decide +kernel)
set_option maxRecDepth 20000 in
theorem gX6_isText_X6_isPart : GoodIn wsX6_isText (wsV RX6 137 RX6 yX6_isPart wsX6_isPart) := goodIn_app (goodIn_of _ (by decide +kernel)) ggX6_isText_X6_isPart
set_option maxRecDepth 20000 in
theorem ggX6_isText_X6_isAt : GoodIn wsX6_isText wsX6_isAt := goodIn_r _ [20, 1, 4, 11, 21, 22, 8, 23, 28, 29, 30, 31, 32, 33, 34, 35, 36, 37, 38, 39, 40, 41] (by decide +kernel) (by decide +kernel)
set_option maxRecDepth 20000 in
theorem gX6_isText_X6_isAt : GoodIn wsX6_isText (wsV RX6 121 RX6 yX6_isAt wsX6_isAt) := goodIn_app (goodIn_of _ (by decide +kernel)) ggX6_isText_X6_isAt
theorem dX6_isText_0 : decode cX6_isText 0 = .ok (.aload_n 0, 1) := by decide +kernel
theorem dX6_isText_1 : decode cX6_isText 1 = .ok (.iconst 0, 1) := by decide +kernel
theorem dX6_isText_2 : decode cX6_isText 2 = .ok (.putfield 114, 3) := by decide +kernel
theorem dX6_isText_5 : decode cX6_isText 5 = .ok (.aload_n 0, 1) := by decide +kernel
theorem dX6_isText_6 : decode cX6_isText 6 = .ok (.iconst 0, 1) := by decide +kernel
theorem dX6_isText_7 : decode cX6_isText 7 = .ok (.putfield 131, 3) := by decide +kernel
theorem dX6_isText_10 : decode cX6_isText 10 = .ok (.aload_n 0, 1) := by decide +kernel
theorem dX6_isText_11 : decode cX6_isText 11 = .ok (.iconst 0, 1) := by decide +kernel
theorem dX6_isText_12 : decode cX6_isText 12 = .ok (.putfield 117, 3) := by decide +kernel
theorem dX6_isText_15 : decode cX6_isText 15 = .ok (.iconst 1, 1) := by decide +kernel
theorem dX6_isText_16 : decode cX6_isText 16 = .ok (.istore_n 1, 1) := by decide +kernel
theorem dX6_isText_17 : decode cX6_isText 17 = .ok (.iload_n 1, 1) := by decide +kernel
theorem dX6_isText_18 : decode cX6_isText 18 = .ok (.ifCond .eq 52, 3) := by decide +kernel
theorem dX6_isText_21 : decode cX6_isText 21 = .ok (.aload_n 0, 1) := by decide +kernel
theorem dX6_isText_22 : decode cX6_isText 22 = .ok (.invokevirtual 137, 3) := by decide +kernel
theorem dX6_isText_25 : decode cX6_isText 25 = .ok (.ifCond .ne 5, 3) := by decide +kernel
theorem dX6_isText_28 : decode cX6_isText 28 = .ok (.iconst 0, 1) := by decide +kernel
theorem dX6_isText_29 : decode cX6_isText 29 = .ok (.ireturn, 1) := by decide +kernel
theorem dX6_isText_30 : decode cX6_isText 30 = .ok (.aload_n 0, 1) := by decide +kernel
theorem dX6_isText_31 : decode cX6_isText 31 = .ok (.dup, 1) := by decide +kernel
theorem dX6_isText_32 : decode cX6_isText 32 = .ok (.getfield 131, 3) := by decide +kernel
theorem dX6_isText_35 : decode cX6_isText 35 = .ok (.iconst 1, 1) := by decide +kernel
theorem dX6_isText_36 : decode cX6_isText 36 = .ok (.iadd, 1) := by decide +kernel
theorem dX6_isText_37 : decode cX6_isText 37 = .ok (.putfield 131, 3) := by decide +kernel
theorem dX6_isText_40 : decode cX6_isText 40 = .ok (.aload_n 0, 1) := by decide +kernel
theorem dX6_isText_41 : decode cX6_isText 41 = .ok (.bipush 59, 2) := by decide +kernel
theorem dX6_isText_43 : decode cX6_isText 43 = .ok (.bipush 59, 2) := by decide +kernel
theorem dX6_isText_45 : decode cX6_isText 45 = .ok (.invokevirtual 121, 3) := by decide +kernel
theorem dX6_isText_48 : decode cX6_isText 48 = .ok (.istore_n 1, 1) := by decide +kernel
theorem dX6_isText_49 : decode cX6_isText 49 = .ok (.aload_n 0, 1) := by decide +kernel
theorem dX6_isText_50 : decode cX6_isText 50 = .ok (.dup, 1) := by decide +kernel
theorem dX6_isText_51 : decode cX6_isText 51 = .ok (.getfield 114, 3) := by decide +kernel
theorem dX6_isText_54 : decode cX6_isText 54 = .ok (.iload_n 1, 1) := by decide +kernel
theorem dX6_isText_55 : decode cX6_isText 55 = .ok (.ifCond .eq 7, 3) := by decide +kernel
theorem dX6_isText_58 : decode cX6_isText 58 = .ok (.iconst 1, 1) := by decide +kernel
theorem dX6_isText_59 : decode cX6_isText 59 = .ok (.goto 4, 3) := by decide +kernel
theorem dX6_isText_62 : decode cX6_isText 62 = .ok (.iconst 0, 1) := by decide +kernel
theorem dX6_isText_63 : decode cX6_isText 63 = .ok (.iadd, 1) := by decide +kernel
theorem dX6_isText_64 : decode cX6_isText 64 = .ok (.putfield 114, 3) := by decide +kernel
theorem dX6_isText_67 : decode cX6_isText 67 = .ok (.goto (-50), 3) := by decide +kernel
theorem dX6_isText_70 : decode cX6_isText 70 = .ok (.aload_n 0, 1) := by decide +kernel
theorem dX6_isText_71 : decode cX6_isText 71 = .ok (.aload_n 0, 1) := by decide +kernel
theorem dX6_isText_72 : decode cX6_isText 72 = .ok (.getfield 114, 3) := by decide +kernel
theorem dX6_isText_75 : decode cX6_isText 75 = .ok (.aload_n 0, 1) := by decide +kernel
theorem dX6_isText_76 : decode cX6_isText 76 = .ok (.getfield 111, 3) := by decide +kernel
theorem dX6_isText_79 : decode cX6_isText 79 = .ok (.if_icmp .ge 7, 3) := by decide +kernel
theorem dX6_isText_82 : decode cX6_isText 82 = .ok (.iconst 1, 1) := by decide +kernel
theorem dX6_isText_83 : decode cX6_isText 83 = .ok (.goto 4, 3) := by decide +kernel
theorem dX6_isText_86 : decode cX6_isText 86 = .ok (.iconst 0, 1) := by decide +kernel
theorem dX6_isText_87 : decode cX6_isText 87 = .ok (.putfield 117, 3) := by decide +kernel
theorem dX6_isText_90 : decode cX6_isText 90 = .ok (.aload_n 0, 1) := by decide +kernel
theorem dX6_isText_91 : decode cX6_isText 91 = .ok (.getfield 114, 3) := by decide +kernel
theorem dX6_isText_94 : decode cX6_isText 94 = .ok (.aload_n 0, 1) := by decide +kernel
theorem dX6_isText_95 : decode cX6_isText 95 = .ok (.getfield 111, 3) := by decide +kernel
theorem dX6_isText_98 : decode cX6_isText 98 = .ok (.if_icmp .ne 7, 3) := by decide +kernel
theorem dX6_isText_101 : decode cX6_isText 101 = .ok (.iconst 1, 1) := by decide +kernel
theorem dX6_isText_102 : decode cX6_isText 102 = .ok (.goto 4, 3) := by decide +kernel
theorem dX6_isText_105 : decode cX6_isText 105 = .ok (.iconst 0, 1) := by decide +kernel
theorem dX6_isText_106 : decode cX6_isText 106 = .ok (.ireturn, 1) := by decide +kernel
set_option maxRecDepth 20000 in
theorem ggX6_firstError_X6_isText : GoodIn wsX6_firstError wsX6_isText := goodIn_r _ [9, 3, 10, 2, 4, 11, 12, 13, 8, 14, 15, 16, 17, 18, 19, 20, 21, 22, 23, 24, 25, 26, 27, 28, 29, 30, 31, 32, 33, 34, 35, 36, 37, 38, 39, 40, 41, 42, 43, 44, 45, 46] (by decide +kernel) (by decide +kernel)
set_option maxRecDepth 20000 in
theorem gX6_firstError_X6_isText : GoodIn wsX6_firstError (wsV RX6 140 RX6 yX6_isText wsX6_isText) := goodIn_app (goodIn_of _ (by decide +kernel)) ggX6_firstError_X6_isText
theorem dX6_firstError_0 : decode cX6_firstError 0 = .ok (.aload_n 0, 1) := by decide +kernel
theorem dX6_firstError_1 : decode cX6_firstError 1 = .ok (.iconst 0, 1) := by decide +kernel
theorem dX6_firstError_2 : decode cX6_firstError 2 = .ok (.putfield 25, 3) := by decide +kernel
theorem dX6_firstError_5 : decode cX6_firstError 5 = .ok (.aload_n 0, 1) := by decide +kernel
theorem dX6_firstError_6 : decode cX6_firstError 6 = .ok (.invokevirtual 140, 3) := by decide +kernel
theorem dX6_firstError_9 : decode cX6_firstError 9 = .ok (.istore_n 1, 1) := by decide +kernel
theorem dX6_firstError_10 : decode cX6_firstError 10 = .ok (.iload_n 1, 1) := by decide +kernel
theorem dX6_firstError_11 : decode cX6_firstError 11 = .ok (.ifCond .ne 17, 3) := by decide +kernel
theorem dX6_firstError_14 : decode cX6_firstError 14 = .ok (.aload_n 0, 1) := by decide +kernel
theorem dX6_firstError_15 : decode cX6_firstError 15 = .ok (.getfield 117, 3) := by decide +kernel
theorem dX6_firstError_18 : decode cX6_firstError 18 = .ok (.ifCond .eq 10, 3) := by decide +kernel
theorem dX6_firstError_21 : decode cX6_firstError 21 = .ok (.aload_n 0, 1) := by decide +kernel
theorem dX6_firstError_22 : decode cX6_firstError 22 = .ok (.getfield 114, 3) := by decide +kernel
theorem dX6_firstError_25 : decode cX6_firstError 25 = .ok (.goto 7, 3) := by decide +kernel
theorem dX6_firstError_28 : decode cX6_firstError 28 = .ok (.aload_n 0, 1) := by decide +kernel
theorem dX6_firstError_29 : decode cX6_firstError 29 = .ok (.getfield 111, 3) := by decide +kernel
theorem dX6_firstError_32 : decode cX6_firstError 32 = .ok (.ireturn, 1) := by decide +kernel
set_option maxRecDepth 20000 in
theorem ggX6_cueAll_X6_isText : GoodIn wsX6_cueAll wsX6_isText := goodIn_r _ [9, 10, 3, 11, 2, 12, 13, 14, 8, 15, 4, 16, 17, 18, 19, 20, 21, 22, 23, 24, 25, 26, 27, 28, 29, 30, 31, 32, 69, 70, 71, 72, 73, 74, 75, 76, 77, 78, 79, 80, 81, 82] (by decide +kernel) (by decide +kernel)
set_option maxRecDepth 20000 in
theorem gX6_cueAll_X6_isText : GoodIn wsX6_cueAll (wsV RX6 140 RX6 yX6_isText wsX6_isText) := goodIn_app (goodIn_of _ (by decide +kernel)) ggX6_cueAll_X6_isText
set_option maxRecDepth 20000 in
theorem ggX6_cueAll_X6_fails : GoodIn wsX6_cueAll wsX6_fails := goodIn_r _ [36, 1, 69, 70, 71, 72, 73, 74, 75, 76, 77, 78, 79, 80, 81, 82] (by decide +kernel) (by decide +kernel)
set_option maxRecDepth 20000 in
theorem gX6_cueAll_X6_fails : GoodIn wsX6_cueAll (wsV RX6 40 RX6 yX6_fails wsX6_fails) := goodIn_app (goodIn_of _ (by decide +kernel)) ggX6_cueAll_X6_fails
set_option maxRecDepth 20000 in
theorem ggX6_cueAll_X6_saves : GoodIn wsX6_cueAll wsX6_saves := goodIn_r _ [40, 41, 42, 43, 44, 45, 8, 46, 69, 70, 71, 72, 73, 74, 75, 76, 77, 78, 79, 80, 81, 82] (by decide +kernel) (by decide +kernel)
set_option maxRecDepth 20000 in
theorem gX6_cueAll_X6_saves : GoodIn wsX6_cueAll (wsV RX6 82 RX6 yX6_saves wsX6_saves) := goodIn_app (goodIn_of _ (by decide +kernel)) ggX6_cueAll_X6_saves
set_option maxRecDepth 20000 in
theorem ggX6_cueAll_X6_reason : GoodIn wsX6_cueAll wsX6_reason := goodIn_r _ [50, 43, 51, 52, 53, 8, 54, 55, 56, 57, 58, 59, 60, 61, 62, 63, 64, 69, 70, 71, 72, 73, 74, 75, 76, 77, 78, 79, 80, 81, 82] (by decide +kernel) (by decide +kernel)
set_option maxRecDepth 20000 in
theorem gX6_cueAll_X6_reason : GoodIn wsX6_cueAll (wsV RX6 100 RX6 yX6_reason wsX6_reason) := goodIn_app (goodIn_of _ (by decide +kernel)) ggX6_cueAll_X6_reason
set_option maxRecDepth 20000 in
theorem ggX6_cueAll_X6_comes : GoodIn wsX6_cueAll wsX6_comes := goodIn_r _ [68, 43, 55, 56, 8, 57, 69, 70, 71, 72, 73, 74, 75, 76, 77, 78, 79, 80, 81, 82] (by decide +kernel) (by decide +kernel)
set_option maxRecDepth 20000 in
theorem gX6_cueAll_X6_comes : GoodIn wsX6_cueAll (wsV RX6 104 RX6 yX6_comes wsX6_comes) := goodIn_app (goodIn_of _ (by decide +kernel)) ggX6_cueAll_X6_comes
theorem dX6_cueAll_0 : decode cX6_cueAll 0 = .ok (.aload_n 0, 1) := by decide +kernel
theorem dX6_cueAll_1 : decode cX6_cueAll 1 = .ok (.iconst 0, 1) := by decide +kernel
theorem dX6_cueAll_2 : decode cX6_cueAll 2 = .ok (.putfield 25, 3) := by decide +kernel
theorem dX6_cueAll_5 : decode cX6_cueAll 5 = .ok (.aload_n 0, 1) := by decide +kernel
theorem dX6_cueAll_6 : decode cX6_cueAll 6 = .ok (.invokevirtual 140, 3) := by decide +kernel
theorem dX6_cueAll_9 : decode cX6_cueAll 9 = .ok (.ifCond .ne 9, 3) := by decide +kernel
theorem dX6_cueAll_12 : decode cX6_cueAll 12 = .ok (.aload_n 0, 1) := by decide +kernel
theorem dX6_cueAll_13 : decode cX6_cueAll 13 = .ok (.iconst 1, 1) := by decide +kernel
theorem dX6_cueAll_14 : decode cX6_cueAll 14 = .ok (.invokevirtual 40, 3) := by decide +kernel
theorem dX6_cueAll_17 : decode cX6_cueAll 17 = .ok (.ireturn, 1) := by decide +kernel
theorem dX6_cueAll_18 : decode cX6_cueAll 18 = .ok (.aload_n 0, 1) := by decide +kernel
theorem dX6_cueAll_19 : decode cX6_cueAll 19 = .ok (.invokevirtual 82, 3) := by decide +kernel
theorem dX6_cueAll_22 : decode cX6_cueAll 22 = .ok (.aload_n 0, 1) := by decide +kernel
theorem dX6_cueAll_23 : decode cX6_cueAll 23 = .ok (.iconst 0, 1) := by decide +kernel
theorem dX6_cueAll_24 : decode cX6_cueAll 24 = .ok (.putfield 111, 3) := by decide +kernel
theorem dX6_cueAll_27 : decode cX6_cueAll 27 = .ok (.iconst 0, 1) := by decide +kernel
theorem dX6_cueAll_28 : decode cX6_cueAll 28 = .ok (.istore_n 1, 1) := by decide +kernel
theorem dX6_cueAll_29 : decode cX6_cueAll 29 = .ok (.iconst 0, 1) := by decide +kernel
theorem dX6_cueAll_30 : decode cX6_cueAll 30 = .ok (.istore_n 2, 1) := by decide +kernel
theorem dX6_cueAll_31 : decode cX6_cueAll 31 = .ok (.iload_n 2, 1) := by decide +kernel
theorem dX6_cueAll_32 : decode cX6_cueAll 32 = .ok (.aload_n 0, 1) := by decide +kernel
theorem dX6_cueAll_33 : decode cX6_cueAll 33 = .ok (.getfield 131, 3) := by decide +kernel
theorem dX6_cueAll_36 : decode cX6_cueAll 36 = .ok (.if_icmp .ge 67, 3) := by decide +kernel
theorem dX6_cueAll_39 : decode cX6_cueAll 39 = .ok (.aload_n 0, 1) := by decide +kernel
theorem dX6_cueAll_40 : decode cX6_cueAll 40 = .ok (.getfield 22, 3) := by decide +kernel
theorem dX6_cueAll_43 : decode cX6_cueAll 43 = .ok (.iconst 3, 1) := by decide +kernel
theorem dX6_cueAll_44 : decode cX6_cueAll 44 = .ok (.iload_n 2, 1) := by decide +kernel
theorem dX6_cueAll_45 : decode cX6_cueAll 45 = .ok (.imul, 1) := by decide +kernel
theorem dX6_cueAll_46 : decode cX6_cueAll 46 = .ok (.iaload, 1) := by decide +kernel
theorem dX6_cueAll_47 : decode cX6_cueAll 47 = .ok (.istore_n 3, 1) := by decide +kernel
theorem dX6_cueAll_48 : decode cX6_cueAll 48 = .ok (.aload_n 0, 1) := by decide +kernel
theorem dX6_cueAll_49 : decode cX6_cueAll 49 = .ok (.getfield 22, 3) := by decide +kernel
theorem dX6_cueAll_52 : decode cX6_cueAll 52 = .ok (.iconst 3, 1) := by decide +kernel
theorem dX6_cueAll_53 : decode cX6_cueAll 53 = .ok (.iload_n 2, 1) := by decide +kernel
theorem dX6_cueAll_54 : decode cX6_cueAll 54 = .ok (.imul, 1) := by decide +kernel
theorem dX6_cueAll_55 : decode cX6_cueAll 55 = .ok (.iconst 1, 1) := by decide +kernel
theorem dX6_cueAll_56 : decode cX6_cueAll 56 = .ok (.iadd, 1) := by decide +kernel
theorem dX6_cueAll_57 : decode cX6_cueAll 57 = .ok (.iaload, 1) := by decide +kernel
theorem dX6_cueAll_58 : decode cX6_cueAll 58 = .ok (.istore 4, 2) := by decide +kernel
theorem dX6_cueAll_60 : decode cX6_cueAll 60 = .ok (.aload_n 0, 1) := by decide +kernel
theorem dX6_cueAll_61 : decode cX6_cueAll 61 = .ok (.getfield 22, 3) := by decide +kernel
theorem dX6_cueAll_64 : decode cX6_cueAll 64 = .ok (.iconst 3, 1) := by decide +kernel
theorem dX6_cueAll_65 : decode cX6_cueAll 65 = .ok (.iload_n 2, 1) := by decide +kernel
theorem dX6_cueAll_66 : decode cX6_cueAll 66 = .ok (.imul, 1) := by decide +kernel
theorem dX6_cueAll_67 : decode cX6_cueAll 67 = .ok (.iconst 2, 1) := by decide +kernel
theorem dX6_cueAll_68 : decode cX6_cueAll 68 = .ok (.iadd, 1) := by decide +kernel
theorem dX6_cueAll_69 : decode cX6_cueAll 69 = .ok (.iaload, 1) := by decide +kernel
theorem dX6_cueAll_70 : decode cX6_cueAll 70 = .ok (.istore 5, 2) := by decide +kernel
theorem dX6_cueAll_72 : decode cX6_cueAll 72 = .ok (.aload_n 0, 1) := by decide +kernel
theorem dX6_cueAll_73 : decode cX6_cueAll 73 = .ok (.iload_n 3, 1) := by decide +kernel
theorem dX6_cueAll_74 : decode cX6_cueAll 74 = .ok (.iload 4, 2) := by decide +kernel
theorem dX6_cueAll_76 : decode cX6_cueAll 76 = .ok (.iload 5, 2) := by decide +kernel
theorem dX6_cueAll_78 : decode cX6_cueAll 78 = .ok (.invokevirtual 100, 3) := by decide +kernel
theorem dX6_cueAll_81 : decode cX6_cueAll 81 = .ok (.ifCond .ne 16, 3) := by decide +kernel
theorem dX6_cueAll_84 : decode cX6_cueAll 84 = .ok (.aload_n 0, 1) := by decide +kernel
theorem dX6_cueAll_85 : decode cX6_cueAll 85 = .ok (.iload_n 3, 1) := by decide +kernel
theorem dX6_cueAll_86 : decode cX6_cueAll 86 = .ok (.iload 4, 2) := by decide +kernel
theorem dX6_cueAll_88 : decode cX6_cueAll 88 = .ok (.iload 5, 2) := by decide +kernel
theorem dX6_cueAll_90 : decode cX6_cueAll 90 = .ok (.invokevirtual 104, 3) := by decide +kernel
theorem dX6_cueAll_93 : decode cX6_cueAll 93 = .ok (.pop, 1) := by decide +kernel
theorem dX6_cueAll_94 : decode cX6_cueAll 94 = .ok (.iinc 1 1, 3) := by decide +kernel
theorem dX6_cueAll_97 : decode cX6_cueAll 97 = .ok (.iinc 2 1, 3) := by decide +kernel
theorem dX6_cueAll_100 : decode cX6_cueAll 100 = .ok (.goto (-69), 3) := by decide +kernel
theorem dX6_cueAll_103 : decode cX6_cueAll 103 = .ok (.iload_n 1, 1) := by decide +kernel
theorem dX6_cueAll_104 : decode cX6_cueAll 104 = .ok (.ireturn, 1) := by decide +kernel
set_option maxRecDepth 20000 in
theorem ggX6_ofJet_X6_of : GoodIn wsX6_ofJet wsX6_of := goodIn_r _ [5] (by decide +kernel) (by decide +kernel)
set_option maxRecDepth 20000 in
theorem gX6_ofJet_X6_of : GoodIn wsX6_ofJet (va_wsS RX6 44 yX6_of wsX6_of) := goodIn_app (goodIn_of _ (by decide +kernel)) ggX6_ofJet_X6_of
set_option maxRecDepth 20000 in
theorem ggX6_ofJet_X6_asks : GoodIn wsX6_ofJet wsX6_asks := goodIn_r _ [8, 2, 3, 4, 5] (by decide +kernel) (by decide +kernel)
set_option maxRecDepth 20000 in
theorem gX6_ofJet_X6_asks : GoodIn wsX6_ofJet (va_wsS RX6 48 yX6_asks wsX6_asks) := goodIn_app (goodIn_of _ (by decide +kernel)) ggX6_ofJet_X6_asks
set_option maxRecDepth 20000 in
theorem ggX6_ofJet_X6_gets : GoodIn wsX6_ofJet wsX6_gets := goodIn_r _ [11, 12, 13, 4, 14, 6, 7, 8, 2, 3, 5] (by decide +kernel) (by decide +kernel)
set_option maxRecDepth 20000 in
theorem gX6_ofJet_X6_gets : GoodIn wsX6_ofJet (va_wsS RX6 55 yX6_gets wsX6_gets) := goodIn_app (goodIn_of _ (by decide +kernel)) ggX6_ofJet_X6_gets
set_option maxRecDepth 20000 in
theorem ggX6_ofJet_X6_height : GoodIn wsX6_ofJet wsX6_height := goodIn_r _ [17, 9, 10, 4, 11, 12, 13, 14, 6, 7, 8, 2, 3, 5] (by decide +kernel) (by decide +kernel)
set_option maxRecDepth 20000 in
theorem gX6_ofJet_X6_height : GoodIn wsX6_ofJet (va_wsS RX6 75 yX6_height wsX6_height) := goodIn_app (goodIn_of _ (by decide +kernel)) ggX6_ofJet_X6_height
theorem dX6_ofJet_0 : decode cX6_ofJet 0 = .ok (.iload_n 2, 1) := by decide +kernel
theorem dX6_ofJet_1 : decode cX6_ofJet 1 = .ok (.iconst 4, 1) := by decide +kernel
theorem dX6_ofJet_2 : decode cX6_ofJet 2 = .ok (.if_icmp .ge 15, 3) := by decide +kernel
theorem dX6_ofJet_5 : decode cX6_ofJet 5 = .ok (.aload_n 0, 1) := by decide +kernel
theorem dX6_ofJet_6 : decode cX6_ofJet 6 = .ok (.getfield 7, 3) := by decide +kernel
theorem dX6_ofJet_9 : decode cX6_ofJet 9 = .ok (.iload_n 1, 1) := by decide +kernel
theorem dX6_ofJet_10 : decode cX6_ofJet 10 = .ok (.iload_n 2, 1) := by decide +kernel
theorem dX6_ofJet_11 : decode cX6_ofJet 11 = .ok (.invokestatic 44, 3) := by decide +kernel
theorem dX6_ofJet_14 : decode cX6_ofJet 14 = .ok (.goto 61, 3) := by decide +kernel
theorem dX6_ofJet_17 : decode cX6_ofJet 17 = .ok (.iload_n 2, 1) := by decide +kernel
theorem dX6_ofJet_18 : decode cX6_ofJet 18 = .ok (.iconst 4, 1) := by decide +kernel
theorem dX6_ofJet_19 : decode cX6_ofJet 19 = .ok (.if_icmp .ne 14, 3) := by decide +kernel
theorem dX6_ofJet_22 : decode cX6_ofJet 22 = .ok (.aload_n 0, 1) := by decide +kernel
theorem dX6_ofJet_23 : decode cX6_ofJet 23 = .ok (.getfield 7, 3) := by decide +kernel
theorem dX6_ofJet_26 : decode cX6_ofJet 26 = .ok (.iload_n 1, 1) := by decide +kernel
theorem dX6_ofJet_27 : decode cX6_ofJet 27 = .ok (.invokestatic 48, 3) := by decide +kernel
theorem dX6_ofJet_30 : decode cX6_ofJet 30 = .ok (.goto 45, 3) := by decide +kernel
theorem dX6_ofJet_33 : decode cX6_ofJet 33 = .ok (.iload_n 2, 1) := by decide +kernel
theorem dX6_ofJet_34 : decode cX6_ofJet 34 = .ok (.iconst 5, 1) := by decide +kernel
theorem dX6_ofJet_35 : decode cX6_ofJet 35 = .ok (.if_icmp .ne 14, 3) := by decide +kernel
theorem dX6_ofJet_38 : decode cX6_ofJet 38 = .ok (.aload_n 0, 1) := by decide +kernel
theorem dX6_ofJet_39 : decode cX6_ofJet 39 = .ok (.getfield 7, 3) := by decide +kernel
theorem dX6_ofJet_42 : decode cX6_ofJet 42 = .ok (.iload_n 1, 1) := by decide +kernel
theorem dX6_ofJet_43 : decode cX6_ofJet 43 = .ok (.invokestatic 55, 3) := by decide +kernel
theorem dX6_ofJet_46 : decode cX6_ofJet 46 = .ok (.goto 29, 3) := by decide +kernel
theorem dX6_ofJet_49 : decode cX6_ofJet 49 = .ok (.iload_n 2, 1) := by decide +kernel
theorem dX6_ofJet_50 : decode cX6_ofJet 50 = .ok (.bipush 6, 2) := by decide +kernel
theorem dX6_ofJet_52 : decode cX6_ofJet 52 = .ok (.if_icmp .ne 14, 3) := by decide +kernel
theorem dX6_ofJet_55 : decode cX6_ofJet 55 = .ok (.aload_n 0, 1) := by decide +kernel
theorem dX6_ofJet_56 : decode cX6_ofJet 56 = .ok (.getfield 7, 3) := by decide +kernel
theorem dX6_ofJet_59 : decode cX6_ofJet 59 = .ok (.iload_n 1, 1) := by decide +kernel
theorem dX6_ofJet_60 : decode cX6_ofJet 60 = .ok (.invokestatic 75, 3) := by decide +kernel
theorem dX6_ofJet_63 : decode cX6_ofJet 63 = .ok (.goto 12, 3) := by decide +kernel
theorem dX6_ofJet_66 : decode cX6_ofJet 66 = .ok (.aload_n 0, 1) := by decide +kernel
theorem dX6_ofJet_67 : decode cX6_ofJet 67 = .ok (.getfield 7, 3) := by decide +kernel
theorem dX6_ofJet_70 : decode cX6_ofJet 70 = .ok (.iload_n 1, 1) := by decide +kernel
theorem dX6_ofJet_71 : decode cX6_ofJet 71 = .ok (.iconst 4, 1) := by decide +kernel
theorem dX6_ofJet_72 : decode cX6_ofJet 72 = .ok (.invokestatic 44, 3) := by decide +kernel
theorem dX6_ofJet_75 : decode cX6_ofJet 75 = .ok (.ireturn, 1) := by decide +kernel
set_option maxRecDepth 20000 in
theorem ggX6_jetOf_X6_isJet : GoodIn wsX6_jetOf wsX6_isJet := goodIn_r _ [5, 6, 7, 4, 8] (by decide +kernel) (by decide +kernel)
set_option maxRecDepth 20000 in
theorem gX6_jetOf_X6_isJet : GoodIn wsX6_jetOf (va_wsS RX6 78 yX6_isJet wsX6_isJet) := goodIn_app (goodIn_of _ (by decide +kernel)) ggX6_jetOf_X6_isJet
set_option maxRecDepth 20000 in
theorem ggX6_jetOf_X6_fails : GoodIn wsX6_jetOf wsX6_fails := goodIn_r _ [12, 1, 33, 34, 35, 36, 37, 38, 39, 40, 41, 42, 43, 44, 45, 46] (by decide +kernel) (by decide +kernel)
set_option maxRecDepth 20000 in
theorem gX6_jetOf_X6_fails : GoodIn wsX6_jetOf (wsV RX6 40 RX6 yX6_fails wsX6_fails) := goodIn_app (goodIn_of _ (by decide +kernel)) ggX6_jetOf_X6_fails
set_option maxRecDepth 20000 in
theorem ggX6_jetOf_X6_in : GoodIn wsX6_jetOf wsX6_in := goodIn_r _ [8] (by decide +kernel) (by decide +kernel)
set_option maxRecDepth 20000 in
theorem gX6_jetOf_X6_in : GoodIn wsX6_jetOf (va_wsS RX6 29 yX6_in wsX6_in) := goodIn_app (goodIn_of _ (by decide +kernel)) ggX6_jetOf_X6_in
set_option maxRecDepth 20000 in
theorem ggX6_jetOf_X6_ofJet : GoodIn wsX6_jetOf wsX6_ofJet := goodIn_r _ [16, 17, 18, 19, 4, 20, 21, 22, 23, 24, 25, 26, 27, 28, 29, 30, 31, 32, 33, 34, 35, 36, 37, 38, 39, 40, 41, 42, 43, 44, 45, 46] (by decide +kernel) (by decide +kernel)
set_option maxRecDepth 20000 in
theorem gX6_jetOf_X6_ofJet : GoodIn wsX6_jetOf (wsV RX6 143 RX6 yX6_ofJet wsX6_ofJet) := goodIn_app (goodIn_of _ (by decide +kernel)) ggX6_jetOf_X6_ofJet
theorem dX6_jetOf_0 : decode cX6_jetOf 0 = .ok (.aload_n 0, 1) := by decide +kernel
theorem dX6_jetOf_1 : decode cX6_jetOf 1 = .ok (.iconst 0, 1) := by decide +kernel
theorem dX6_jetOf_2 : decode cX6_jetOf 2 = .ok (.putfield 25, 3) := by decide +kernel
theorem dX6_jetOf_5 : decode cX6_jetOf 5 = .ok (.iload_n 1, 1) := by decide +kernel
theorem dX6_jetOf_6 : decode cX6_jetOf 6 = .ok (.invokestatic 78, 3) := by decide +kernel
theorem dX6_jetOf_9 : decode cX6_jetOf 9 = .ok (.ifCond .ne 9, 3) := by decide +kernel
theorem dX6_jetOf_12 : decode cX6_jetOf 12 = .ok (.aload_n 0, 1) := by decide +kernel
theorem dX6_jetOf_13 : decode cX6_jetOf 13 = .ok (.iconst 1, 1) := by decide +kernel
theorem dX6_jetOf_14 : decode cX6_jetOf 14 = .ok (.invokevirtual 40, 3) := by decide +kernel
theorem dX6_jetOf_17 : decode cX6_jetOf 17 = .ok (.ireturn, 1) := by decide +kernel
theorem dX6_jetOf_18 : decode cX6_jetOf 18 = .ok (.iload_n 2, 1) := by decide +kernel
theorem dX6_jetOf_19 : decode cX6_jetOf 19 = .ok (.iconst 0, 1) := by decide +kernel
theorem dX6_jetOf_20 : decode cX6_jetOf 20 = .ok (.bipush 7, 2) := by decide +kernel
theorem dX6_jetOf_22 : decode cX6_jetOf 22 = .ok (.invokestatic 29, 3) := by decide +kernel
theorem dX6_jetOf_25 : decode cX6_jetOf 25 = .ok (.ifCond .eq 12, 3) := by decide +kernel
theorem dX6_jetOf_28 : decode cX6_jetOf 28 = .ok (.aload_n 0, 1) := by decide +kernel
theorem dX6_jetOf_29 : decode cX6_jetOf 29 = .ok (.iload_n 1, 1) := by decide +kernel
theorem dX6_jetOf_30 : decode cX6_jetOf 30 = .ok (.iload_n 2, 1) := by decide +kernel
theorem dX6_jetOf_31 : decode cX6_jetOf 31 = .ok (.invokevirtual 143, 3) := by decide +kernel
theorem dX6_jetOf_34 : decode cX6_jetOf 34 = .ok (.goto 8, 3) := by decide +kernel
theorem dX6_jetOf_37 : decode cX6_jetOf 37 = .ok (.aload_n 0, 1) := by decide +kernel
theorem dX6_jetOf_38 : decode cX6_jetOf 38 = .ok (.iconst 2, 1) := by decide +kernel
theorem dX6_jetOf_39 : decode cX6_jetOf 39 = .ok (.invokevirtual 40, 3) := by decide +kernel
theorem dX6_jetOf_42 : decode cX6_jetOf 42 = .ok (.ireturn, 1) := by decide +kernel
set_option maxRecDepth 20000 in
theorem ggX6_ofPump_X6_gets : GoodIn wsX6_ofPump wsX6_gets := goodIn_r _ [5, 6, 7, 4, 8, 9, 10, 11, 12, 13, 14] (by decide +kernel) (by decide +kernel)
set_option maxRecDepth 20000 in
theorem gX6_ofPump_X6_gets : GoodIn wsX6_ofPump (va_wsS RX6 55 yX6_gets wsX6_gets) := goodIn_app (goodIn_of _ (by decide +kernel)) ggX6_ofPump_X6_gets
set_option maxRecDepth 20000 in
theorem ggX6_ofPump_X6_pumpAsks : GoodIn wsX6_ofPump wsX6_pumpAsks := goodIn_r _ [8, 9, 10, 4, 11, 12, 13, 14] (by decide +kernel) (by decide +kernel)
set_option maxRecDepth 20000 in
theorem gX6_ofPump_X6_pumpAsks : GoodIn wsX6_ofPump (va_wsS RX6 52 yX6_pumpAsks wsX6_pumpAsks) := goodIn_app (goodIn_of _ (by decide +kernel)) ggX6_ofPump_X6_pumpAsks
theorem dX6_ofPump_0 : decode cX6_ofPump 0 = .ok (.iconst 0, 1) := by decide +kernel
theorem dX6_ofPump_1 : decode cX6_ofPump 1 = .ok (.istore_n 3, 1) := by decide +kernel
theorem dX6_ofPump_2 : decode cX6_ofPump 2 = .ok (.iconst 4, 1) := by decide +kernel
theorem dX6_ofPump_3 : decode cX6_ofPump 3 = .ok (.iload_n 1, 1) := by decide +kernel
theorem dX6_ofPump_4 : decode cX6_ofPump 4 = .ok (.imul, 1) := by decide +kernel
theorem dX6_ofPump_5 : decode cX6_ofPump 5 = .ok (.istore 4, 2) := by decide +kernel
theorem dX6_ofPump_7 : decode cX6_ofPump 7 = .ok (.iload 4, 2) := by decide +kernel
theorem dX6_ofPump_9 : decode cX6_ofPump 9 = .ok (.iconst 4, 1) := by decide +kernel
theorem dX6_ofPump_10 : decode cX6_ofPump 10 = .ok (.iload_n 1, 1) := by decide +kernel
theorem dX6_ofPump_11 : decode cX6_ofPump 11 = .ok (.imul, 1) := by decide +kernel
theorem dX6_ofPump_12 : decode cX6_ofPump 12 = .ok (.iconst 4, 1) := by decide +kernel
theorem dX6_ofPump_13 : decode cX6_ofPump 13 = .ok (.iadd, 1) := by decide +kernel
theorem dX6_ofPump_14 : decode cX6_ofPump 14 = .ok (.if_icmp .ge 21, 3) := by decide +kernel
theorem dX6_ofPump_17 : decode cX6_ofPump 17 = .ok (.iload_n 3, 1) := by decide +kernel
theorem dX6_ofPump_18 : decode cX6_ofPump 18 = .ok (.aload_n 0, 1) := by decide +kernel
theorem dX6_ofPump_19 : decode cX6_ofPump 19 = .ok (.getfield 7, 3) := by decide +kernel
theorem dX6_ofPump_22 : decode cX6_ofPump 22 = .ok (.iload 4, 2) := by decide +kernel
theorem dX6_ofPump_24 : decode cX6_ofPump 24 = .ok (.invokestatic 55, 3) := by decide +kernel
theorem dX6_ofPump_27 : decode cX6_ofPump 27 = .ok (.iadd, 1) := by decide +kernel
theorem dX6_ofPump_28 : decode cX6_ofPump 28 = .ok (.istore_n 3, 1) := by decide +kernel
theorem dX6_ofPump_29 : decode cX6_ofPump 29 = .ok (.iinc 4 1, 3) := by decide +kernel
theorem dX6_ofPump_32 : decode cX6_ofPump 32 = .ok (.goto (-25), 3) := by decide +kernel
theorem dX6_ofPump_35 : decode cX6_ofPump 35 = .ok (.iload_n 2, 1) := by decide +kernel
theorem dX6_ofPump_36 : decode cX6_ofPump 36 = .ok (.ifCond .ne 14, 3) := by decide +kernel
theorem dX6_ofPump_39 : decode cX6_ofPump 39 = .ok (.aload_n 0, 1) := by decide +kernel
theorem dX6_ofPump_40 : decode cX6_ofPump 40 = .ok (.getfield 7, 3) := by decide +kernel
theorem dX6_ofPump_43 : decode cX6_ofPump 43 = .ok (.iconst 3, 1) := by decide +kernel
theorem dX6_ofPump_44 : decode cX6_ofPump 44 = .ok (.iload_n 1, 1) := by decide +kernel
theorem dX6_ofPump_45 : decode cX6_ofPump 45 = .ok (.iadd, 1) := by decide +kernel
theorem dX6_ofPump_46 : decode cX6_ofPump 46 = .ok (.iaload, 1) := by decide +kernel
theorem dX6_ofPump_47 : decode cX6_ofPump 47 = .ok (.goto 20, 3) := by decide +kernel
theorem dX6_ofPump_50 : decode cX6_ofPump 50 = .ok (.iload_n 2, 1) := by decide +kernel
theorem dX6_ofPump_51 : decode cX6_ofPump 51 = .ok (.iconst 1, 1) := by decide +kernel
theorem dX6_ofPump_52 : decode cX6_ofPump 52 = .ok (.if_icmp .ne 14, 3) := by decide +kernel
theorem dX6_ofPump_55 : decode cX6_ofPump 55 = .ok (.aload_n 0, 1) := by decide +kernel
theorem dX6_ofPump_56 : decode cX6_ofPump 56 = .ok (.getfield 7, 3) := by decide +kernel
theorem dX6_ofPump_59 : decode cX6_ofPump 59 = .ok (.iload_n 1, 1) := by decide +kernel
theorem dX6_ofPump_60 : decode cX6_ofPump 60 = .ok (.invokestatic 52, 3) := by decide +kernel
theorem dX6_ofPump_63 : decode cX6_ofPump 63 = .ok (.goto 4, 3) := by decide +kernel
theorem dX6_ofPump_66 : decode cX6_ofPump 66 = .ok (.iload_n 3, 1) := by decide +kernel
theorem dX6_ofPump_67 : decode cX6_ofPump 67 = .ok (.ireturn, 1) := by decide +kernel
set_option maxRecDepth 20000 in
theorem ggX6_pumpOf_X6_in : GoodIn wsX6_pumpOf wsX6_in := goodIn_r _ [5] (by decide +kernel) (by decide +kernel)
set_option maxRecDepth 20000 in
theorem gX6_pumpOf_X6_in : GoodIn wsX6_pumpOf (va_wsS RX6 29 yX6_in wsX6_in) := goodIn_app (goodIn_of _ (by decide +kernel)) ggX6_pumpOf_X6_in
set_option maxRecDepth 20000 in
theorem ggX6_pumpOf_X6_fails : GoodIn wsX6_pumpOf wsX6_fails := goodIn_r _ [9, 1, 27, 28, 29, 30, 31, 32, 33, 34, 35, 36, 37, 38, 39, 40] (by decide +kernel) (by decide +kernel)
set_option maxRecDepth 20000 in
theorem gX6_pumpOf_X6_fails : GoodIn wsX6_pumpOf (wsV RX6 40 RX6 yX6_fails wsX6_fails) := goodIn_app (goodIn_of _ (by decide +kernel)) ggX6_pumpOf_X6_fails
set_option maxRecDepth 20000 in
theorem ggX6_pumpOf_X6_ofPump : GoodIn wsX6_pumpOf wsX6_ofPump := goodIn_r _ [13, 14, 15, 16, 4, 17, 18, 19, 20, 21, 22, 23, 24, 25, 26, 27, 28, 29, 30, 31, 32, 33, 34, 35, 36, 37, 38, 39, 40] (by decide +kernel) (by decide +kernel)
set_option maxRecDepth 20000 in
theorem gX6_pumpOf_X6_ofPump : GoodIn wsX6_pumpOf (wsV RX6 146 RX6 yX6_ofPump wsX6_ofPump) := goodIn_app (goodIn_of _ (by decide +kernel)) ggX6_pumpOf_X6_ofPump
theorem dX6_pumpOf_0 : decode cX6_pumpOf 0 = .ok (.aload_n 0, 1) := by decide +kernel
theorem dX6_pumpOf_1 : decode cX6_pumpOf 1 = .ok (.iconst 0, 1) := by decide +kernel
theorem dX6_pumpOf_2 : decode cX6_pumpOf 2 = .ok (.putfield 25, 3) := by decide +kernel
theorem dX6_pumpOf_5 : decode cX6_pumpOf 5 = .ok (.iload_n 1, 1) := by decide +kernel
theorem dX6_pumpOf_6 : decode cX6_pumpOf 6 = .ok (.iconst 0, 1) := by decide +kernel
theorem dX6_pumpOf_7 : decode cX6_pumpOf 7 = .ok (.iconst 1, 1) := by decide +kernel
theorem dX6_pumpOf_8 : decode cX6_pumpOf 8 = .ok (.invokestatic 29, 3) := by decide +kernel
theorem dX6_pumpOf_11 : decode cX6_pumpOf 11 = .ok (.ifCond .ne 9, 3) := by decide +kernel
theorem dX6_pumpOf_14 : decode cX6_pumpOf 14 = .ok (.aload_n 0, 1) := by decide +kernel
theorem dX6_pumpOf_15 : decode cX6_pumpOf 15 = .ok (.iconst 1, 1) := by decide +kernel
theorem dX6_pumpOf_16 : decode cX6_pumpOf 16 = .ok (.invokevirtual 40, 3) := by decide +kernel
theorem dX6_pumpOf_19 : decode cX6_pumpOf 19 = .ok (.ireturn, 1) := by decide +kernel
theorem dX6_pumpOf_20 : decode cX6_pumpOf 20 = .ok (.iload_n 2, 1) := by decide +kernel
theorem dX6_pumpOf_21 : decode cX6_pumpOf 21 = .ok (.iconst 0, 1) := by decide +kernel
theorem dX6_pumpOf_22 : decode cX6_pumpOf 22 = .ok (.iconst 2, 1) := by decide +kernel
theorem dX6_pumpOf_23 : decode cX6_pumpOf 23 = .ok (.invokestatic 29, 3) := by decide +kernel
theorem dX6_pumpOf_26 : decode cX6_pumpOf 26 = .ok (.ifCond .eq 12, 3) := by decide +kernel
theorem dX6_pumpOf_29 : decode cX6_pumpOf 29 = .ok (.aload_n 0, 1) := by decide +kernel
theorem dX6_pumpOf_30 : decode cX6_pumpOf 30 = .ok (.iload_n 1, 1) := by decide +kernel
theorem dX6_pumpOf_31 : decode cX6_pumpOf 31 = .ok (.iload_n 2, 1) := by decide +kernel
theorem dX6_pumpOf_32 : decode cX6_pumpOf 32 = .ok (.invokevirtual 146, 3) := by decide +kernel
theorem dX6_pumpOf_35 : decode cX6_pumpOf 35 = .ok (.goto 8, 3) := by decide +kernel
theorem dX6_pumpOf_38 : decode cX6_pumpOf 38 = .ok (.aload_n 0, 1) := by decide +kernel
theorem dX6_pumpOf_39 : decode cX6_pumpOf 39 = .ok (.iconst 2, 1) := by decide +kernel
theorem dX6_pumpOf_40 : decode cX6_pumpOf 40 = .ok (.invokevirtual 40, 3) := by decide +kernel
theorem dX6_pumpOf_43 : decode cX6_pumpOf 43 = .ok (.ireturn, 1) := by decide +kernel
set_option maxRecDepth 20000 in
theorem ggX6_cueOf_X6_in : GoodIn wsX6_cueOf wsX6_in := goodIn_r _ [6] (by decide +kernel) (by decide +kernel)
set_option maxRecDepth 20000 in
theorem gX6_cueOf_X6_in : GoodIn wsX6_cueOf (va_wsS RX6 29 yX6_in wsX6_in) := goodIn_app (goodIn_of _ (by decide +kernel)) ggX6_cueOf_X6_in
set_option maxRecDepth 20000 in
theorem ggX6_cueOf_X6_fails : GoodIn wsX6_cueOf wsX6_fails := goodIn_r _ [10, 1, 14, 15, 16, 17, 18, 19, 20, 21, 22, 23, 24, 25, 26, 27] (by decide +kernel) (by decide +kernel)
set_option maxRecDepth 20000 in
theorem gX6_cueOf_X6_fails : GoodIn wsX6_cueOf (wsV RX6 40 RX6 yX6_fails wsX6_fails) := goodIn_app (goodIn_of _ (by decide +kernel)) ggX6_cueOf_X6_fails
set_option maxRecDepth 20000 in
theorem ggX6_cueOf_X6_by : GoodIn wsX6_cueOf wsX6_by := goodIn_r _ [13] (by decide +kernel) (by decide +kernel)
set_option maxRecDepth 20000 in
theorem gX6_cueOf_X6_by : GoodIn wsX6_cueOf (va_wsS RX6 58 yX6_by wsX6_by) := goodIn_app (goodIn_of _ (by decide +kernel)) ggX6_cueOf_X6_by
theorem dX6_cueOf_0 : decode cX6_cueOf 0 = .ok (.aload_n 0, 1) := by decide +kernel
theorem dX6_cueOf_1 : decode cX6_cueOf 1 = .ok (.iconst 0, 1) := by decide +kernel
theorem dX6_cueOf_2 : decode cX6_cueOf 2 = .ok (.putfield 25, 3) := by decide +kernel
theorem dX6_cueOf_5 : decode cX6_cueOf 5 = .ok (.iload_n 1, 1) := by decide +kernel
theorem dX6_cueOf_6 : decode cX6_cueOf 6 = .ok (.ifCond .lt 12, 3) := by decide +kernel
theorem dX6_cueOf_9 : decode cX6_cueOf 9 = .ok (.iload_n 2, 1) := by decide +kernel
theorem dX6_cueOf_10 : decode cX6_cueOf 10 = .ok (.iconst 0, 1) := by decide +kernel
theorem dX6_cueOf_11 : decode cX6_cueOf 11 = .ok (.iconst 3, 1) := by decide +kernel
theorem dX6_cueOf_12 : decode cX6_cueOf 12 = .ok (.invokestatic 29, 3) := by decide +kernel
theorem dX6_cueOf_15 : decode cX6_cueOf 15 = .ok (.ifCond .ne 9, 3) := by decide +kernel
theorem dX6_cueOf_18 : decode cX6_cueOf 18 = .ok (.aload_n 0, 1) := by decide +kernel
theorem dX6_cueOf_19 : decode cX6_cueOf 19 = .ok (.iconst 1, 1) := by decide +kernel
theorem dX6_cueOf_20 : decode cX6_cueOf 20 = .ok (.invokevirtual 40, 3) := by decide +kernel
theorem dX6_cueOf_23 : decode cX6_cueOf 23 = .ok (.ireturn, 1) := by decide +kernel
theorem dX6_cueOf_24 : decode cX6_cueOf 24 = .ok (.iload_n 1, 1) := by decide +kernel
theorem dX6_cueOf_25 : decode cX6_cueOf 25 = .ok (.aload_n 0, 1) := by decide +kernel
theorem dX6_cueOf_26 : decode cX6_cueOf 26 = .ok (.getfield 7, 3) := by decide +kernel
theorem dX6_cueOf_29 : decode cX6_cueOf 29 = .ok (.bipush 8, 2) := by decide +kernel
theorem dX6_cueOf_31 : decode cX6_cueOf 31 = .ok (.iaload, 1) := by decide +kernel
theorem dX6_cueOf_32 : decode cX6_cueOf 32 = .ok (.if_icmp .ge 15, 3) := by decide +kernel
theorem dX6_cueOf_35 : decode cX6_cueOf 35 = .ok (.aload_n 0, 1) := by decide +kernel
theorem dX6_cueOf_36 : decode cX6_cueOf 36 = .ok (.getfield 7, 3) := by decide +kernel
theorem dX6_cueOf_39 : decode cX6_cueOf 39 = .ok (.iload_n 1, 1) := by decide +kernel
theorem dX6_cueOf_40 : decode cX6_cueOf 40 = .ok (.iload_n 2, 1) := by decide +kernel
theorem dX6_cueOf_41 : decode cX6_cueOf 41 = .ok (.invokestatic 58, 3) := by decide +kernel
theorem dX6_cueOf_44 : decode cX6_cueOf 44 = .ok (.goto 4, 3) := by decide +kernel
theorem dX6_cueOf_47 : decode cX6_cueOf 47 = .ok (.iconst (-1), 1) := by decide +kernel
theorem dX6_cueOf_48 : decode cX6_cueOf 48 = .ok (.ireturn, 1) := by decide +kernel
set_option maxRecDepth 20000 in
theorem ggX6_lamps_X6_height : GoodIn wsX6_lamps wsX6_height := goodIn_r _ [5, 6, 7, 4, 8, 9, 10, 11, 12, 13, 14, 15, 16, 17] (by decide +kernel) (by decide +kernel)
set_option maxRecDepth 20000 in
theorem gX6_lamps_X6_height : GoodIn wsX6_lamps (va_wsS RX6 75 yX6_height wsX6_height) := goodIn_app (goodIn_of _ (by decide +kernel)) ggX6_lamps_X6_height
theorem dX6_lamps_0 : decode cX6_lamps 0 = .ok (.iconst 0, 1) := by decide +kernel
theorem dX6_lamps_1 : decode cX6_lamps 1 = .ok (.istore_n 1, 1) := by decide +kernel
theorem dX6_lamps_2 : decode cX6_lamps 2 = .ok (.iconst 0, 1) := by decide +kernel
theorem dX6_lamps_3 : decode cX6_lamps 3 = .ok (.istore_n 2, 1) := by decide +kernel
theorem dX6_lamps_4 : decode cX6_lamps 4 = .ok (.iload_n 2, 1) := by decide +kernel
theorem dX6_lamps_5 : decode cX6_lamps 5 = .ok (.bipush 8, 2) := by decide +kernel
theorem dX6_lamps_7 : decode cX6_lamps 7 = .ok (.if_icmp .ge 28, 3) := by decide +kernel
theorem dX6_lamps_10 : decode cX6_lamps 10 = .ok (.iload_n 1, 1) := by decide +kernel
theorem dX6_lamps_11 : decode cX6_lamps 11 = .ok (.aload_n 0, 1) := by decide +kernel
theorem dX6_lamps_12 : decode cX6_lamps 12 = .ok (.getfield 7, 3) := by decide +kernel
theorem dX6_lamps_15 : decode cX6_lamps 15 = .ok (.iload_n 2, 1) := by decide +kernel
theorem dX6_lamps_16 : decode cX6_lamps 16 = .ok (.invokestatic 75, 3) := by decide +kernel
theorem dX6_lamps_19 : decode cX6_lamps 19 = .ok (.ifCond .le 7, 3) := by decide +kernel
theorem dX6_lamps_22 : decode cX6_lamps 22 = .ok (.iconst 1, 1) := by decide +kernel
theorem dX6_lamps_23 : decode cX6_lamps 23 = .ok (.goto 4, 3) := by decide +kernel
theorem dX6_lamps_26 : decode cX6_lamps 26 = .ok (.iconst 0, 1) := by decide +kernel
theorem dX6_lamps_27 : decode cX6_lamps 27 = .ok (.iadd, 1) := by decide +kernel
theorem dX6_lamps_28 : decode cX6_lamps 28 = .ok (.istore_n 1, 1) := by decide +kernel
theorem dX6_lamps_29 : decode cX6_lamps 29 = .ok (.iinc 2 1, 3) := by decide +kernel
theorem dX6_lamps_32 : decode cX6_lamps 32 = .ok (.goto (-28), 3) := by decide +kernel
theorem dX6_lamps_35 : decode cX6_lamps 35 = .ok (.iload_n 1, 1) := by decide +kernel
theorem dX6_lamps_36 : decode cX6_lamps 36 = .ok (.ireturn, 1) := by decide +kernel
set_option maxRecDepth 20000 in
theorem ggX6_counted_X6_lamps : GoodIn wsX6_counted wsX6_lamps := goodIn_r _ [7, 1, 8, 9, 6, 10, 11, 12, 13, 14, 15, 16, 17, 18, 19, 20, 21, 22, 23, 24, 25, 26, 27, 28, 29, 30, 31, 32, 33, 34, 35, 36] (by decide +kernel) (by decide +kernel)
set_option maxRecDepth 20000 in
theorem gX6_counted_X6_lamps : GoodIn wsX6_counted (wsV RX6 149 RX6 yX6_lamps wsX6_lamps) := goodIn_app (goodIn_of _ (by decide +kernel)) ggX6_counted_X6_lamps
theorem dX6_counted_0 : decode cX6_counted 0 = .ok (.iload_n 1, 1) := by decide +kernel
theorem dX6_counted_1 : decode cX6_counted 1 = .ok (.tableswitch 102 0 8 #[51, 51, 61, 61, 72, 72, 84, 89, 89], 51) := by decide +kernel
theorem dX6_counted_52 : decode cX6_counted 52 = .ok (.aload_n 0, 1) := by decide +kernel
theorem dX6_counted_53 : decode cX6_counted 53 = .ok (.getfield 7, 3) := by decide +kernel
theorem dX6_counted_56 : decode cX6_counted 56 = .ok (.bipush 7, 2) := by decide +kernel
theorem dX6_counted_58 : decode cX6_counted 58 = .ok (.iload_n 1, 1) := by decide +kernel
theorem dX6_counted_59 : decode cX6_counted 59 = .ok (.iadd, 1) := by decide +kernel
theorem dX6_counted_60 : decode cX6_counted 60 = .ok (.iaload, 1) := by decide +kernel
theorem dX6_counted_61 : decode cX6_counted 61 = .ok (.ireturn, 1) := by decide +kernel
theorem dX6_counted_62 : decode cX6_counted 62 = .ok (.aload_n 0, 1) := by decide +kernel
theorem dX6_counted_63 : decode cX6_counted 63 = .ok (.getfield 7, 3) := by decide +kernel
theorem dX6_counted_66 : decode cX6_counted 66 = .ok (.iconst 5, 1) := by decide +kernel
theorem dX6_counted_67 : decode cX6_counted 67 = .ok (.iload_n 1, 1) := by decide +kernel
theorem dX6_counted_68 : decode cX6_counted 68 = .ok (.iadd, 1) := by decide +kernel
theorem dX6_counted_69 : decode cX6_counted 69 = .ok (.iconst 2, 1) := by decide +kernel
theorem dX6_counted_70 : decode cX6_counted 70 = .ok (.isub, 1) := by decide +kernel
theorem dX6_counted_71 : decode cX6_counted 71 = .ok (.iaload, 1) := by decide +kernel
theorem dX6_counted_72 : decode cX6_counted 72 = .ok (.ireturn, 1) := by decide +kernel
theorem dX6_counted_73 : decode cX6_counted 73 = .ok (.aload_n 0, 1) := by decide +kernel
theorem dX6_counted_74 : decode cX6_counted 74 = .ok (.getfield 7, 3) := by decide +kernel
theorem dX6_counted_77 : decode cX6_counted 77 = .ok (.bipush 10, 2) := by decide +kernel
theorem dX6_counted_79 : decode cX6_counted 79 = .ok (.iload_n 1, 1) := by decide +kernel
theorem dX6_counted_80 : decode cX6_counted 80 = .ok (.iadd, 1) := by decide +kernel
theorem dX6_counted_81 : decode cX6_counted 81 = .ok (.iconst 4, 1) := by decide +kernel
theorem dX6_counted_82 : decode cX6_counted 82 = .ok (.isub, 1) := by decide +kernel
theorem dX6_counted_83 : decode cX6_counted 83 = .ok (.iaload, 1) := by decide +kernel
theorem dX6_counted_84 : decode cX6_counted 84 = .ok (.ireturn, 1) := by decide +kernel
theorem dX6_counted_85 : decode cX6_counted 85 = .ok (.aload_n 0, 1) := by decide +kernel
theorem dX6_counted_86 : decode cX6_counted 86 = .ok (.invokevirtual 149, 3) := by decide +kernel
theorem dX6_counted_89 : decode cX6_counted 89 = .ok (.ireturn, 1) := by decide +kernel
theorem dX6_counted_90 : decode cX6_counted 90 = .ok (.aload_n 0, 1) := by decide +kernel
theorem dX6_counted_91 : decode cX6_counted 91 = .ok (.getfield 7, 3) := by decide +kernel
theorem dX6_counted_94 : decode cX6_counted 94 = .ok (.bipush 12, 2) := by decide +kernel
theorem dX6_counted_96 : decode cX6_counted 96 = .ok (.iload_n 1, 1) := by decide +kernel
theorem dX6_counted_97 : decode cX6_counted 97 = .ok (.iadd, 1) := by decide +kernel
theorem dX6_counted_98 : decode cX6_counted 98 = .ok (.bipush 7, 2) := by decide +kernel
theorem dX6_counted_100 : decode cX6_counted 100 = .ok (.isub, 1) := by decide +kernel
theorem dX6_counted_101 : decode cX6_counted 101 = .ok (.iaload, 1) := by decide +kernel
theorem dX6_counted_102 : decode cX6_counted 102 = .ok (.ireturn, 1) := by decide +kernel
theorem dX6_counted_103 : decode cX6_counted 103 = .ok (.aload_n 0, 1) := by decide +kernel
theorem dX6_counted_104 : decode cX6_counted 104 = .ok (.getfield 33, 3) := by decide +kernel
theorem dX6_counted_107 : decode cX6_counted 107 = .ok (.ireturn, 1) := by decide +kernel
set_option maxRecDepth 20000 in
theorem ggX6_count_X6_in : GoodIn wsX6_count wsX6_in := goodIn_r _ [5] (by decide +kernel) (by decide +kernel)
set_option maxRecDepth 20000 in
theorem gX6_count_X6_in : GoodIn wsX6_count (va_wsS RX6 29 yX6_in wsX6_in) := goodIn_app (goodIn_of _ (by decide +kernel)) ggX6_count_X6_in
set_option maxRecDepth 20000 in
theorem ggX6_count_X6_counted : GoodIn wsX6_count wsX6_counted := goodIn_r _ [9, 10, 11, 12, 13, 14, 4, 15, 16, 17, 18, 19, 20, 21, 22, 23, 24, 25, 26, 27, 28, 29, 30, 35, 36, 37, 38, 39, 40, 41, 42, 43, 44, 45, 46, 47, 48] (by decide +kernel) (by decide +kernel)
set_option maxRecDepth 20000 in
theorem gX6_count_X6_counted : GoodIn wsX6_count (wsV RX6 153 RX6 yX6_counted wsX6_counted) := goodIn_app (goodIn_of _ (by decide +kernel)) ggX6_count_X6_counted
set_option maxRecDepth 20000 in
theorem ggX6_count_X6_fails : GoodIn wsX6_count wsX6_fails := goodIn_r _ [34, 1, 35, 36, 37, 38, 39, 40, 41, 42, 43, 44, 45, 46, 47, 48] (by decide +kernel) (by decide +kernel)
set_option maxRecDepth 20000 in
theorem gX6_count_X6_fails : GoodIn wsX6_count (wsV RX6 40 RX6 yX6_fails wsX6_fails) := goodIn_app (goodIn_of _ (by decide +kernel)) ggX6_count_X6_fails
theorem dX6_count_0 : decode cX6_count 0 = .ok (.aload_n 0, 1) := by decide +kernel
theorem dX6_count_1 : decode cX6_count 1 = .ok (.iconst 0, 1) := by decide +kernel
theorem dX6_count_2 : decode cX6_count 2 = .ok (.putfield 25, 3) := by decide +kernel
theorem dX6_count_5 : decode cX6_count 5 = .ok (.iload_n 1, 1) := by decide +kernel
theorem dX6_count_6 : decode cX6_count 6 = .ok (.iconst 0, 1) := by decide +kernel
theorem dX6_count_7 : decode cX6_count 7 = .ok (.bipush 9, 2) := by decide +kernel
theorem dX6_count_9 : decode cX6_count 9 = .ok (.invokestatic 29, 3) := by decide +kernel
theorem dX6_count_12 : decode cX6_count 12 = .ok (.ifCond .eq 11, 3) := by decide +kernel
theorem dX6_count_15 : decode cX6_count 15 = .ok (.aload_n 0, 1) := by decide +kernel
theorem dX6_count_16 : decode cX6_count 16 = .ok (.iload_n 1, 1) := by decide +kernel
theorem dX6_count_17 : decode cX6_count 17 = .ok (.invokevirtual 153, 3) := by decide +kernel
theorem dX6_count_20 : decode cX6_count 20 = .ok (.goto 8, 3) := by decide +kernel
theorem dX6_count_23 : decode cX6_count 23 = .ok (.aload_n 0, 1) := by decide +kernel
theorem dX6_count_24 : decode cX6_count 24 = .ok (.iconst 1, 1) := by decide +kernel
theorem dX6_count_25 : decode cX6_count 25 = .ok (.invokevirtual 40, 3) := by decide +kernel
theorem dX6_count_28 : decode cX6_count 28 = .ok (.ireturn, 1) := by decide +kernel
set_option maxRecDepth 20000 in
theorem ggX6_setting_X6_in : GoodIn wsX6_setting wsX6_in := goodIn_r _ [6] (by decide +kernel) (by decide +kernel)
set_option maxRecDepth 20000 in
theorem gX6_setting_X6_in : GoodIn wsX6_setting (va_wsS RX6 29 yX6_in wsX6_in) := goodIn_app (goodIn_of _ (by decide +kernel)) ggX6_setting_X6_in
set_option maxRecDepth 20000 in
theorem ggX6_setting_X6_fails : GoodIn wsX6_setting wsX6_fails := goodIn_r _ [10, 1, 11, 12, 13, 14, 15, 16, 17, 18, 19, 20, 21, 22, 23, 24] (by decide +kernel) (by decide +kernel)
set_option maxRecDepth 20000 in
theorem gX6_setting_X6_fails : GoodIn wsX6_setting (wsV RX6 40 RX6 yX6_fails wsX6_fails) := goodIn_app (goodIn_of _ (by decide +kernel)) ggX6_setting_X6_fails
theorem dX6_setting_0 : decode cX6_setting 0 = .ok (.aload_n 0, 1) := by decide +kernel
theorem dX6_setting_1 : decode cX6_setting 1 = .ok (.iconst 0, 1) := by decide +kernel
theorem dX6_setting_2 : decode cX6_setting 2 = .ok (.putfield 25, 3) := by decide +kernel
theorem dX6_setting_5 : decode cX6_setting 5 = .ok (.iload_n 1, 1) := by decide +kernel
theorem dX6_setting_6 : decode cX6_setting 6 = .ok (.iconst 0, 1) := by decide +kernel
theorem dX6_setting_7 : decode cX6_setting 7 = .ok (.iconst 2, 1) := by decide +kernel
theorem dX6_setting_8 : decode cX6_setting 8 = .ok (.invokestatic 29, 3) := by decide +kernel
theorem dX6_setting_11 : decode cX6_setting 11 = .ok (.ifCond .eq 12, 3) := by decide +kernel
theorem dX6_setting_14 : decode cX6_setting 14 = .ok (.aload_n 0, 1) := by decide +kernel
theorem dX6_setting_15 : decode cX6_setting 15 = .ok (.getfield 7, 3) := by decide +kernel
theorem dX6_setting_18 : decode cX6_setting 18 = .ok (.iload_n 1, 1) := by decide +kernel
theorem dX6_setting_19 : decode cX6_setting 19 = .ok (.iaload, 1) := by decide +kernel
theorem dX6_setting_20 : decode cX6_setting 20 = .ok (.goto 8, 3) := by decide +kernel
theorem dX6_setting_23 : decode cX6_setting 23 = .ok (.aload_n 0, 1) := by decide +kernel
theorem dX6_setting_24 : decode cX6_setting 24 = .ok (.iconst 1, 1) := by decide +kernel
theorem dX6_setting_25 : decode cX6_setting 25 = .ok (.invokevirtual 40, 3) := by decide +kernel
theorem dX6_setting_28 : decode cX6_setting 28 = .ok (.ireturn, 1) := by decide +kernel
set_option maxRecDepth 20000 in
theorem ggX6_refusal_X6_isJet : GoodIn wsX6_refusal wsX6_isJet := goodIn_r _ [5, 6, 7, 4, 8] (by decide +kernel) (by decide +kernel)
set_option maxRecDepth 20000 in
theorem gX6_refusal_X6_isJet : GoodIn wsX6_refusal (va_wsS RX6 78 yX6_isJet wsX6_isJet) := goodIn_app (goodIn_of _ (by decide +kernel)) ggX6_refusal_X6_isJet
set_option maxRecDepth 20000 in
theorem ggX6_refusal_X6_fails : GoodIn wsX6_refusal wsX6_fails := goodIn_r _ [12, 1, 35, 36, 37, 38, 39, 40, 41, 42, 43, 44, 45, 46, 47, 48] (by decide +kernel) (by decide +kernel)
set_option maxRecDepth 20000 in
theorem gX6_refusal_X6_fails : GoodIn wsX6_refusal (wsV RX6 40 RX6 yX6_fails wsX6_fails) := goodIn_app (goodIn_of _ (by decide +kernel)) ggX6_refusal_X6_fails
set_option maxRecDepth 20000 in
theorem ggX6_refusal_X6_isTick : GoodIn wsX6_refusal wsX6_isTick := goodIn_r _ [15, 6, 7, 4, 8] (by decide +kernel) (by decide +kernel)
set_option maxRecDepth 20000 in
theorem gX6_refusal_X6_isTick : GoodIn wsX6_refusal (va_wsS RX6 97 yX6_isTick wsX6_isTick) := goodIn_app (goodIn_of _ (by decide +kernel)) ggX6_refusal_X6_isTick
set_option maxRecDepth 20000 in
theorem ggX6_refusal_X6_in : GoodIn wsX6_refusal wsX6_in := goodIn_r _ [8] (by decide +kernel) (by decide +kernel)
set_option maxRecDepth 20000 in
theorem gX6_refusal_X6_in : GoodIn wsX6_refusal (va_wsS RX6 29 yX6_in wsX6_in) := goodIn_app (goodIn_of _ (by decide +kernel)) ggX6_refusal_X6_in
set_option maxRecDepth 20000 in
theorem ggX6_refusal_X6_reason : GoodIn wsX6_refusal wsX6_reason := goodIn_r _ [19, 20, 21, 22, 23, 4, 24, 25, 26, 27, 28, 29, 30, 31, 32, 33, 34, 35, 36, 37, 38, 39, 40, 41, 42, 43, 44, 45, 46, 47, 48] (by decide +kernel) (by decide +kernel)
set_option maxRecDepth 20000 in
theorem gX6_refusal_X6_reason : GoodIn wsX6_refusal (wsV RX6 100 RX6 yX6_reason wsX6_reason) := goodIn_app (goodIn_of _ (by decide +kernel)) ggX6_refusal_X6_reason
theorem dX6_refusal_0 : decode cX6_refusal 0 = .ok (.aload_n 0, 1) := by decide +kernel
theorem dX6_refusal_1 : decode cX6_refusal 1 = .ok (.iconst 0, 1) := by decide +kernel
theorem dX6_refusal_2 : decode cX6_refusal 2 = .ok (.putfield 25, 3) := by decide +kernel
theorem dX6_refusal_5 : decode cX6_refusal 5 = .ok (.iload_n 2, 1) := by decide +kernel
theorem dX6_refusal_6 : decode cX6_refusal 6 = .ok (.invokestatic 78, 3) := by decide +kernel
theorem dX6_refusal_9 : decode cX6_refusal 9 = .ok (.ifCond .ne 9, 3) := by decide +kernel
theorem dX6_refusal_12 : decode cX6_refusal 12 = .ok (.aload_n 0, 1) := by decide +kernel
theorem dX6_refusal_13 : decode cX6_refusal 13 = .ok (.iconst 1, 1) := by decide +kernel
theorem dX6_refusal_14 : decode cX6_refusal 14 = .ok (.invokevirtual 40, 3) := by decide +kernel
theorem dX6_refusal_17 : decode cX6_refusal 17 = .ok (.ireturn, 1) := by decide +kernel
theorem dX6_refusal_18 : decode cX6_refusal 18 = .ok (.iload_n 1, 1) := by decide +kernel
theorem dX6_refusal_19 : decode cX6_refusal 19 = .ok (.invokestatic 97, 3) := by decide +kernel
theorem dX6_refusal_22 : decode cX6_refusal 22 = .ok (.ifCond .eq 23, 3) := by decide +kernel
theorem dX6_refusal_25 : decode cX6_refusal 25 = .ok (.iload_n 3, 1) := by decide +kernel
theorem dX6_refusal_26 : decode cX6_refusal 26 = .ok (.iconst 0, 1) := by decide +kernel
theorem dX6_refusal_27 : decode cX6_refusal 27 = .ok (.bipush 10, 2) := by decide +kernel
theorem dX6_refusal_29 : decode cX6_refusal 29 = .ok (.invokestatic 29, 3) := by decide +kernel
theorem dX6_refusal_32 : decode cX6_refusal 32 = .ok (.ifCond .eq 13, 3) := by decide +kernel
theorem dX6_refusal_35 : decode cX6_refusal 35 = .ok (.aload_n 0, 1) := by decide +kernel
theorem dX6_refusal_36 : decode cX6_refusal 36 = .ok (.iload_n 1, 1) := by decide +kernel
theorem dX6_refusal_37 : decode cX6_refusal 37 = .ok (.iload_n 2, 1) := by decide +kernel
theorem dX6_refusal_38 : decode cX6_refusal 38 = .ok (.iload_n 3, 1) := by decide +kernel
theorem dX6_refusal_39 : decode cX6_refusal 39 = .ok (.invokevirtual 100, 3) := by decide +kernel
theorem dX6_refusal_42 : decode cX6_refusal 42 = .ok (.goto 8, 3) := by decide +kernel
theorem dX6_refusal_45 : decode cX6_refusal 45 = .ok (.aload_n 0, 1) := by decide +kernel
theorem dX6_refusal_46 : decode cX6_refusal 46 = .ok (.iconst 2, 1) := by decide +kernel
theorem dX6_refusal_47 : decode cX6_refusal 47 = .ok (.invokevirtual 40, 3) := by decide +kernel
theorem dX6_refusal_50 : decode cX6_refusal 50 = .ok (.ireturn, 1) := by decide +kernel
set_option maxRecDepth 20000 in
theorem ggX6_byPlaying_X6_copies : GoodIn wsX6_byPlaying wsX6_copies := goodIn_r _ [8] (by decide +kernel) (by decide +kernel)
set_option maxRecDepth 20000 in
theorem gX6_byPlaying_X6_copies : GoodIn wsX6_byPlaying (va_wsS RX6 36 yX6_copies wsX6_copies) := goodIn_app (goodIn_of _ (by decide +kernel)) ggX6_byPlaying_X6_copies
set_option maxRecDepth 20000 in
theorem ggX6_byPlaying_X6_tick : GoodIn wsX6_byPlaying wsX6_tick := goodIn_r _ [12, 3, 4, 13, 14, 7, 15, 16, 17, 18, 19, 20, 21, 22, 23, 24, 25, 26, 27, 28, 29, 30, 31, 32, 33, 34, 35, 36, 37, 38, 39, 40, 41, 42, 43, 44, 45, 46, 47, 48, 49, 50] (by decide +kernel) (by decide +kernel)
set_option maxRecDepth 20000 in
theorem gX6_byPlaying_X6_tick : GoodIn wsX6_byPlaying (wsV RX6 107 RX6 yX6_tick wsX6_tick) := goodIn_app (goodIn_of _ (by decide +kernel)) ggX6_byPlaying_X6_tick
theorem dX6_byPlaying_0 : decode cX6_byPlaying 0 = .ok (.aload_n 0, 1) := by decide +kernel
theorem dX6_byPlaying_1 : decode cX6_byPlaying 1 = .ok (.getfield 7, 3) := by decide +kernel
theorem dX6_byPlaying_4 : decode cX6_byPlaying 4 = .ok (.iconst 0, 1) := by decide +kernel
theorem dX6_byPlaying_5 : decode cX6_byPlaying 5 = .ok (.aload_n 0, 1) := by decide +kernel
theorem dX6_byPlaying_6 : decode cX6_byPlaying 6 = .ok (.getfield 13, 3) := by decide +kernel
theorem dX6_byPlaying_9 : decode cX6_byPlaying 9 = .ok (.iconst 0, 1) := by decide +kernel
theorem dX6_byPlaying_10 : decode cX6_byPlaying 10 = .ok (.invokestatic 36, 3) := by decide +kernel
theorem dX6_byPlaying_13 : decode cX6_byPlaying 13 = .ok (.iconst 0, 1) := by decide +kernel
theorem dX6_byPlaying_14 : decode cX6_byPlaying 14 = .ok (.istore_n 3, 1) := by decide +kernel
theorem dX6_byPlaying_15 : decode cX6_byPlaying 15 = .ok (.iconst 0, 1) := by decide +kernel
theorem dX6_byPlaying_16 : decode cX6_byPlaying 16 = .ok (.istore 4, 2) := by decide +kernel
theorem dX6_byPlaying_18 : decode cX6_byPlaying 18 = .ok (.iconst 0, 1) := by decide +kernel
theorem dX6_byPlaying_19 : decode cX6_byPlaying 19 = .ok (.istore 5, 2) := by decide +kernel
theorem dX6_byPlaying_21 : decode cX6_byPlaying 21 = .ok (.iload 5, 2) := by decide +kernel
theorem dX6_byPlaying_23 : decode cX6_byPlaying 23 = .ok (.iload_n 1, 1) := by decide +kernel
theorem dX6_byPlaying_24 : decode cX6_byPlaying 24 = .ok (.if_icmp .ge 43, 3) := by decide +kernel
theorem dX6_byPlaying_27 : decode cX6_byPlaying 27 = .ok (.aload_n 0, 1) := by decide +kernel
theorem dX6_byPlaying_28 : decode cX6_byPlaying 28 = .ok (.aload_n 0, 1) := by decide +kernel
theorem dX6_byPlaying_29 : decode cX6_byPlaying 29 = .ok (.getfield 13, 3) := by decide +kernel
theorem dX6_byPlaying_32 : decode cX6_byPlaying 32 = .ok (.invokevirtual 107, 3) := by decide +kernel
theorem dX6_byPlaying_35 : decode cX6_byPlaying 35 = .ok (.aload_n 0, 1) := by decide +kernel
theorem dX6_byPlaying_36 : decode cX6_byPlaying 36 = .ok (.getfield 65, 3) := by decide +kernel
theorem dX6_byPlaying_39 : decode cX6_byPlaying 39 = .ok (.iload_n 3, 1) := by decide +kernel
theorem dX6_byPlaying_40 : decode cX6_byPlaying 40 = .ok (.if_icmp .le 10, 3) := by decide +kernel
theorem dX6_byPlaying_43 : decode cX6_byPlaying 43 = .ok (.aload_n 0, 1) := by decide +kernel
theorem dX6_byPlaying_44 : decode cX6_byPlaying 44 = .ok (.getfield 65, 3) := by decide +kernel
theorem dX6_byPlaying_47 : decode cX6_byPlaying 47 = .ok (.goto 4, 3) := by decide +kernel
theorem dX6_byPlaying_50 : decode cX6_byPlaying 50 = .ok (.iload_n 3, 1) := by decide +kernel
theorem dX6_byPlaying_51 : decode cX6_byPlaying 51 = .ok (.istore_n 3, 1) := by decide +kernel
theorem dX6_byPlaying_52 : decode cX6_byPlaying 52 = .ok (.iload 4, 2) := by decide +kernel
theorem dX6_byPlaying_54 : decode cX6_byPlaying 54 = .ok (.aload_n 0, 1) := by decide +kernel
theorem dX6_byPlaying_55 : decode cX6_byPlaying 55 = .ok (.getfield 68, 3) := by decide +kernel
theorem dX6_byPlaying_58 : decode cX6_byPlaying 58 = .ok (.iadd, 1) := by decide +kernel
theorem dX6_byPlaying_59 : decode cX6_byPlaying 59 = .ok (.istore 4, 2) := by decide +kernel
theorem dX6_byPlaying_61 : decode cX6_byPlaying 61 = .ok (.iinc 5 1, 3) := by decide +kernel
theorem dX6_byPlaying_64 : decode cX6_byPlaying 64 = .ok (.goto (-43), 3) := by decide +kernel
theorem dX6_byPlaying_67 : decode cX6_byPlaying 67 = .ok (.iload_n 2, 1) := by decide +kernel
theorem dX6_byPlaying_68 : decode cX6_byPlaying 68 = .ok (.ifCond .ne 21, 3) := by decide +kernel
theorem dX6_byPlaying_71 : decode cX6_byPlaying 71 = .ok (.aload_n 0, 1) := by decide +kernel
theorem dX6_byPlaying_72 : decode cX6_byPlaying 72 = .ok (.getfield 13, 3) := by decide +kernel
theorem dX6_byPlaying_75 : decode cX6_byPlaying 75 = .ok (.bipush 10, 2) := by decide +kernel
theorem dX6_byPlaying_77 : decode cX6_byPlaying 77 = .ok (.iaload, 1) := by decide +kernel
theorem dX6_byPlaying_78 : decode cX6_byPlaying 78 = .ok (.aload_n 0, 1) := by decide +kernel
theorem dX6_byPlaying_79 : decode cX6_byPlaying 79 = .ok (.getfield 7, 3) := by decide +kernel
theorem dX6_byPlaying_82 : decode cX6_byPlaying 82 = .ok (.bipush 10, 2) := by decide +kernel
theorem dX6_byPlaying_84 : decode cX6_byPlaying 84 = .ok (.iaload, 1) := by decide +kernel
theorem dX6_byPlaying_85 : decode cX6_byPlaying 85 = .ok (.isub, 1) := by decide +kernel
theorem dX6_byPlaying_86 : decode cX6_byPlaying 86 = .ok (.goto 37, 3) := by decide +kernel
theorem dX6_byPlaying_89 : decode cX6_byPlaying 89 = .ok (.iload_n 2, 1) := by decide +kernel
theorem dX6_byPlaying_90 : decode cX6_byPlaying 90 = .ok (.iconst 1, 1) := by decide +kernel
theorem dX6_byPlaying_91 : decode cX6_byPlaying 91 = .ok (.if_icmp .ne 21, 3) := by decide +kernel
theorem dX6_byPlaying_94 : decode cX6_byPlaying 94 = .ok (.aload_n 0, 1) := by decide +kernel
theorem dX6_byPlaying_95 : decode cX6_byPlaying 95 = .ok (.getfield 13, 3) := by decide +kernel
theorem dX6_byPlaying_98 : decode cX6_byPlaying 98 = .ok (.bipush 11, 2) := by decide +kernel
theorem dX6_byPlaying_100 : decode cX6_byPlaying 100 = .ok (.iaload, 1) := by decide +kernel
theorem dX6_byPlaying_101 : decode cX6_byPlaying 101 = .ok (.aload_n 0, 1) := by decide +kernel
theorem dX6_byPlaying_102 : decode cX6_byPlaying 102 = .ok (.getfield 7, 3) := by decide +kernel
theorem dX6_byPlaying_105 : decode cX6_byPlaying 105 = .ok (.bipush 11, 2) := by decide +kernel
theorem dX6_byPlaying_107 : decode cX6_byPlaying 107 = .ok (.iaload, 1) := by decide +kernel
theorem dX6_byPlaying_108 : decode cX6_byPlaying 108 = .ok (.isub, 1) := by decide +kernel
theorem dX6_byPlaying_109 : decode cX6_byPlaying 109 = .ok (.goto 14, 3) := by decide +kernel
theorem dX6_byPlaying_112 : decode cX6_byPlaying 112 = .ok (.iload_n 2, 1) := by decide +kernel
theorem dX6_byPlaying_113 : decode cX6_byPlaying 113 = .ok (.iconst 2, 1) := by decide +kernel
theorem dX6_byPlaying_114 : decode cX6_byPlaying 114 = .ok (.if_icmp .ne 7, 3) := by decide +kernel
theorem dX6_byPlaying_117 : decode cX6_byPlaying 117 = .ok (.iload_n 3, 1) := by decide +kernel
theorem dX6_byPlaying_118 : decode cX6_byPlaying 118 = .ok (.goto 5, 3) := by decide +kernel
theorem dX6_byPlaying_121 : decode cX6_byPlaying 121 = .ok (.iload 4, 2) := by decide +kernel
theorem dX6_byPlaying_123 : decode cX6_byPlaying 123 = .ok (.ireturn, 1) := by decide +kernel
set_option maxRecDepth 20000 in
theorem ggX6_ifPlayed_X6_in : GoodIn wsX6_ifPlayed wsX6_in := goodIn_r _ [5] (by decide +kernel) (by decide +kernel)
set_option maxRecDepth 20000 in
theorem gX6_ifPlayed_X6_in : GoodIn wsX6_ifPlayed (va_wsS RX6 29 yX6_in wsX6_in) := goodIn_app (goodIn_of _ (by decide +kernel)) ggX6_ifPlayed_X6_in
set_option maxRecDepth 20000 in
theorem ggX6_ifPlayed_X6_byPlaying : GoodIn wsX6_ifPlayed wsX6_byPlaying := goodIn_r _ [9, 10, 11, 12, 13, 14, 15, 4, 16, 17, 18, 19, 20, 21, 22, 23, 24, 25, 26, 27, 28, 29, 30, 31, 32, 33, 34, 35, 36, 37, 38, 39, 40, 41, 42, 43, 44, 49, 50, 51, 52, 53, 54, 55, 56, 57, 58, 59, 60, 61, 62] (by decide +kernel) (by decide +kernel)
set_option maxRecDepth 20000 in
theorem gX6_ifPlayed_X6_byPlaying : GoodIn wsX6_ifPlayed (wsV RX6 156 RX6 yX6_byPlaying wsX6_byPlaying) := goodIn_app (goodIn_of _ (by decide +kernel)) ggX6_ifPlayed_X6_byPlaying
set_option maxRecDepth 20000 in
theorem ggX6_ifPlayed_X6_fails : GoodIn wsX6_ifPlayed wsX6_fails := goodIn_r _ [48, 1, 49, 50, 51, 52, 53, 54, 55, 56, 57, 58, 59, 60, 61, 62] (by decide +kernel) (by decide +kernel)
set_option maxRecDepth 20000 in
theorem gX6_ifPlayed_X6_fails : GoodIn wsX6_ifPlayed (wsV RX6 40 RX6 yX6_fails wsX6_fails) := goodIn_app (goodIn_of _ (by decide +kernel)) ggX6_ifPlayed_X6_fails
theorem dX6_ifPlayed_0 : decode cX6_ifPlayed 0 = .ok (.aload_n 0, 1) := by decide +kernel
theorem dX6_ifPlayed_1 : decode cX6_ifPlayed 1 = .ok (.iconst 0, 1) := by decide +kernel
theorem dX6_ifPlayed_2 : decode cX6_ifPlayed 2 = .ok (.putfield 25, 3) := by decide +kernel
theorem dX6_ifPlayed_5 : decode cX6_ifPlayed 5 = .ok (.iload_n 1, 1) := by decide +kernel
theorem dX6_ifPlayed_6 : decode cX6_ifPlayed 6 = .ok (.iconst 1, 1) := by decide +kernel
theorem dX6_ifPlayed_7 : decode cX6_ifPlayed 7 = .ok (.bipush 100, 2) := by decide +kernel
theorem dX6_ifPlayed_9 : decode cX6_ifPlayed 9 = .ok (.invokestatic 29, 3) := by decide +kernel
theorem dX6_ifPlayed_12 : decode cX6_ifPlayed 12 = .ok (.ifCond .eq 21, 3) := by decide +kernel
theorem dX6_ifPlayed_15 : decode cX6_ifPlayed 15 = .ok (.iload_n 2, 1) := by decide +kernel
theorem dX6_ifPlayed_16 : decode cX6_ifPlayed 16 = .ok (.iconst 0, 1) := by decide +kernel
theorem dX6_ifPlayed_17 : decode cX6_ifPlayed 17 = .ok (.iconst 3, 1) := by decide +kernel
theorem dX6_ifPlayed_18 : decode cX6_ifPlayed 18 = .ok (.invokestatic 29, 3) := by decide +kernel
theorem dX6_ifPlayed_21 : decode cX6_ifPlayed 21 = .ok (.ifCond .eq 12, 3) := by decide +kernel
theorem dX6_ifPlayed_24 : decode cX6_ifPlayed 24 = .ok (.aload_n 0, 1) := by decide +kernel
theorem dX6_ifPlayed_25 : decode cX6_ifPlayed 25 = .ok (.iload_n 1, 1) := by decide +kernel
theorem dX6_ifPlayed_26 : decode cX6_ifPlayed 26 = .ok (.iload_n 2, 1) := by decide +kernel
theorem dX6_ifPlayed_27 : decode cX6_ifPlayed 27 = .ok (.invokevirtual 156, 3) := by decide +kernel
theorem dX6_ifPlayed_30 : decode cX6_ifPlayed 30 = .ok (.goto 8, 3) := by decide +kernel
theorem dX6_ifPlayed_33 : decode cX6_ifPlayed 33 = .ok (.aload_n 0, 1) := by decide +kernel
theorem dX6_ifPlayed_34 : decode cX6_ifPlayed 34 = .ok (.iconst 1, 1) := by decide +kernel
theorem dX6_ifPlayed_35 : decode cX6_ifPlayed 35 = .ok (.invokevirtual 40, 3) := by decide +kernel
theorem dX6_ifPlayed_38 : decode cX6_ifPlayed 38 = .ok (.ireturn, 1) := by decide +kernel
set_option maxRecDepth 20000 in
theorem ggX6_greatest_X6_reason : GoodIn wsX6_greatest wsX6_reason := goodIn_r _ [5, 6, 7, 8, 9, 4, 10, 11, 12, 13, 14, 15, 16, 17, 18, 19, 20, 21, 22, 23, 24, 25, 26, 27, 28, 29, 30, 31, 32, 33, 34] (by decide +kernel) (by decide +kernel)
set_option maxRecDepth 20000 in
theorem gX6_greatest_X6_reason : GoodIn wsX6_greatest (wsV RX6 100 RX6 yX6_reason wsX6_reason) := goodIn_app (goodIn_of _ (by decide +kernel)) ggX6_greatest_X6_reason
theorem dX6_greatest_0 : decode cX6_greatest 0 = .ok (.bipush 10, 2) := by decide +kernel
theorem dX6_greatest_2 : decode cX6_greatest 2 = .ok (.istore_n 3, 1) := by decide +kernel
theorem dX6_greatest_3 : decode cX6_greatest 3 = .ok (.iload_n 3, 1) := by decide +kernel
theorem dX6_greatest_4 : decode cX6_greatest 4 = .ok (.ifCond .lt 19, 3) := by decide +kernel
theorem dX6_greatest_7 : decode cX6_greatest 7 = .ok (.aload_n 0, 1) := by decide +kernel
theorem dX6_greatest_8 : decode cX6_greatest 8 = .ok (.iload_n 1, 1) := by decide +kernel
theorem dX6_greatest_9 : decode cX6_greatest 9 = .ok (.iload_n 2, 1) := by decide +kernel
theorem dX6_greatest_10 : decode cX6_greatest 10 = .ok (.iload_n 3, 1) := by decide +kernel
theorem dX6_greatest_11 : decode cX6_greatest 11 = .ok (.invokevirtual 100, 3) := by decide +kernel
theorem dX6_greatest_14 : decode cX6_greatest 14 = .ok (.ifCond .eq 9, 3) := by decide +kernel
theorem dX6_greatest_17 : decode cX6_greatest 17 = .ok (.iinc 3 (-1), 3) := by decide +kernel
theorem dX6_greatest_20 : decode cX6_greatest 20 = .ok (.goto (-17), 3) := by decide +kernel
theorem dX6_greatest_23 : decode cX6_greatest 23 = .ok (.iload_n 3, 1) := by decide +kernel
theorem dX6_greatest_24 : decode cX6_greatest 24 = .ok (.ireturn, 1) := by decide +kernel
set_option maxRecDepth 20000 in
theorem ggX6_mostAim_X6_isJet : GoodIn wsX6_mostAim wsX6_isJet := goodIn_r _ [5, 6, 7, 4, 8] (by decide +kernel) (by decide +kernel)
set_option maxRecDepth 20000 in
theorem gX6_mostAim_X6_isJet : GoodIn wsX6_mostAim (va_wsS RX6 78 yX6_isJet wsX6_isJet) := goodIn_app (goodIn_of _ (by decide +kernel)) ggX6_mostAim_X6_isJet
set_option maxRecDepth 20000 in
theorem ggX6_mostAim_X6_fails : GoodIn wsX6_mostAim wsX6_fails := goodIn_r _ [12, 1, 39, 40, 41, 42, 43, 44, 45, 46, 47, 48, 49, 50, 51, 52] (by decide +kernel) (by decide +kernel)
set_option maxRecDepth 20000 in
theorem gX6_mostAim_X6_fails : GoodIn wsX6_mostAim (wsV RX6 40 RX6 yX6_fails wsX6_fails) := goodIn_app (goodIn_of _ (by decide +kernel)) ggX6_mostAim_X6_fails
set_option maxRecDepth 20000 in
theorem ggX6_mostAim_X6_isTick : GoodIn wsX6_mostAim wsX6_isTick := goodIn_r _ [15, 6, 7, 4, 8] (by decide +kernel) (by decide +kernel)
set_option maxRecDepth 20000 in
theorem gX6_mostAim_X6_isTick : GoodIn wsX6_mostAim (va_wsS RX6 97 yX6_isTick wsX6_isTick) := goodIn_app (goodIn_of _ (by decide +kernel)) ggX6_mostAim_X6_isTick
set_option maxRecDepth 20000 in
theorem ggX6_mostAim_X6_greatest : GoodIn wsX6_mostAim wsX6_greatest := goodIn_r _ [19, 20, 21, 22, 4, 23, 24, 25, 26, 27, 28, 29, 30, 31, 32, 33, 34, 35, 36, 37, 38, 39, 40, 41, 42, 43, 44, 45, 46, 47, 48, 49, 50, 51, 52] (by decide +kernel) (by decide +kernel)
set_option maxRecDepth 20000 in
theorem gX6_mostAim_X6_greatest : GoodIn wsX6_mostAim (wsV RX6 159 RX6 yX6_greatest wsX6_greatest) := goodIn_app (goodIn_of _ (by decide +kernel)) ggX6_mostAim_X6_greatest
theorem dX6_mostAim_0 : decode cX6_mostAim 0 = .ok (.aload_n 0, 1) := by decide +kernel
theorem dX6_mostAim_1 : decode cX6_mostAim 1 = .ok (.iconst 0, 1) := by decide +kernel
theorem dX6_mostAim_2 : decode cX6_mostAim 2 = .ok (.putfield 25, 3) := by decide +kernel
theorem dX6_mostAim_5 : decode cX6_mostAim 5 = .ok (.iload_n 2, 1) := by decide +kernel
theorem dX6_mostAim_6 : decode cX6_mostAim 6 = .ok (.invokestatic 78, 3) := by decide +kernel
theorem dX6_mostAim_9 : decode cX6_mostAim 9 = .ok (.ifCond .ne 9, 3) := by decide +kernel
theorem dX6_mostAim_12 : decode cX6_mostAim 12 = .ok (.aload_n 0, 1) := by decide +kernel
theorem dX6_mostAim_13 : decode cX6_mostAim 13 = .ok (.iconst 1, 1) := by decide +kernel
theorem dX6_mostAim_14 : decode cX6_mostAim 14 = .ok (.invokevirtual 40, 3) := by decide +kernel
theorem dX6_mostAim_17 : decode cX6_mostAim 17 = .ok (.ireturn, 1) := by decide +kernel
theorem dX6_mostAim_18 : decode cX6_mostAim 18 = .ok (.iload_n 1, 1) := by decide +kernel
theorem dX6_mostAim_19 : decode cX6_mostAim 19 = .ok (.invokestatic 97, 3) := by decide +kernel
theorem dX6_mostAim_22 : decode cX6_mostAim 22 = .ok (.ifCond .eq 12, 3) := by decide +kernel
theorem dX6_mostAim_25 : decode cX6_mostAim 25 = .ok (.aload_n 0, 1) := by decide +kernel
theorem dX6_mostAim_26 : decode cX6_mostAim 26 = .ok (.iload_n 1, 1) := by decide +kernel
theorem dX6_mostAim_27 : decode cX6_mostAim 27 = .ok (.iload_n 2, 1) := by decide +kernel
theorem dX6_mostAim_28 : decode cX6_mostAim 28 = .ok (.invokevirtual 159, 3) := by decide +kernel
theorem dX6_mostAim_31 : decode cX6_mostAim 31 = .ok (.goto 8, 3) := by decide +kernel
theorem dX6_mostAim_34 : decode cX6_mostAim 34 = .ok (.aload_n 0, 1) := by decide +kernel
theorem dX6_mostAim_35 : decode cX6_mostAim 35 = .ok (.iconst 2, 1) := by decide +kernel
theorem dX6_mostAim_36 : decode cX6_mostAim 36 = .ok (.invokevirtual 40, 3) := by decide +kernel
theorem dX6_mostAim_39 : decode cX6_mostAim 39 = .ok (.ireturn, 1) := by decide +kernel
set_option maxRecDepth 20000 in
theorem ggX6_fit_X6_reason : GoodIn wsX6_fit wsX6_reason := goodIn_r _ [5, 6, 7, 8, 9, 4, 10, 11, 12, 13, 14, 15, 16, 17, 18, 19, 20, 21, 22, 23, 24, 25, 26, 27, 28, 29, 30, 31, 32, 33, 34] (by decide +kernel) (by decide +kernel)
set_option maxRecDepth 20000 in
theorem gX6_fit_X6_reason : GoodIn wsX6_fit (wsV RX6 100 RX6 yX6_reason wsX6_reason) := goodIn_app (goodIn_of _ (by decide +kernel)) ggX6_fit_X6_reason
theorem dX6_fit_0 : decode cX6_fit 0 = .ok (.iload_n 1, 1) := by decide +kernel
theorem dX6_fit_1 : decode cX6_fit 1 = .ok (.istore 4, 2) := by decide +kernel
theorem dX6_fit_3 : decode cX6_fit 3 = .ok (.iload 4, 2) := by decide +kernel
theorem dX6_fit_5 : decode cX6_fit 5 = .ok (.sipush 999, 3) := by decide +kernel
theorem dX6_fit_8 : decode cX6_fit 8 = .ok (.if_icmp .gt 23, 3) := by decide +kernel
theorem dX6_fit_11 : decode cX6_fit 11 = .ok (.aload_n 0, 1) := by decide +kernel
theorem dX6_fit_12 : decode cX6_fit 12 = .ok (.iload 4, 2) := by decide +kernel
theorem dX6_fit_14 : decode cX6_fit 14 = .ok (.iload_n 2, 1) := by decide +kernel
theorem dX6_fit_15 : decode cX6_fit 15 = .ok (.iload_n 3, 1) := by decide +kernel
theorem dX6_fit_16 : decode cX6_fit 16 = .ok (.invokevirtual 100, 3) := by decide +kernel
theorem dX6_fit_19 : decode cX6_fit 19 = .ok (.ifCond .ne 6, 3) := by decide +kernel
theorem dX6_fit_22 : decode cX6_fit 22 = .ok (.iload 4, 2) := by decide +kernel
theorem dX6_fit_24 : decode cX6_fit 24 = .ok (.ireturn, 1) := by decide +kernel
theorem dX6_fit_25 : decode cX6_fit 25 = .ok (.iinc 4 1, 3) := by decide +kernel
theorem dX6_fit_28 : decode cX6_fit 28 = .ok (.goto (-25), 3) := by decide +kernel
theorem dX6_fit_31 : decode cX6_fit 31 = .ok (.iconst (-1), 1) := by decide +kernel
theorem dX6_fit_32 : decode cX6_fit 32 = .ok (.ireturn, 1) := by decide +kernel
set_option maxRecDepth 20000 in
theorem ggX6_fits_X6_isJet : GoodIn wsX6_fits wsX6_isJet := goodIn_r _ [5, 6, 7, 4, 8] (by decide +kernel) (by decide +kernel)
set_option maxRecDepth 20000 in
theorem gX6_fits_X6_isJet : GoodIn wsX6_fits (va_wsS RX6 78 yX6_isJet wsX6_isJet) := goodIn_app (goodIn_of _ (by decide +kernel)) ggX6_fits_X6_isJet
set_option maxRecDepth 20000 in
theorem ggX6_fits_X6_fails : GoodIn wsX6_fits wsX6_fails := goodIn_r _ [12, 1, 39, 40, 41, 42, 43, 44, 45, 46, 47, 48, 49, 50, 51, 52] (by decide +kernel) (by decide +kernel)
set_option maxRecDepth 20000 in
theorem gX6_fits_X6_fails : GoodIn wsX6_fits (wsV RX6 40 RX6 yX6_fails wsX6_fails) := goodIn_app (goodIn_of _ (by decide +kernel)) ggX6_fits_X6_fails
set_option maxRecDepth 20000 in
theorem ggX6_fits_X6_isTick : GoodIn wsX6_fits wsX6_isTick := goodIn_r _ [15, 6, 7, 4, 8] (by decide +kernel) (by decide +kernel)
set_option maxRecDepth 20000 in
theorem gX6_fits_X6_isTick : GoodIn wsX6_fits (va_wsS RX6 97 yX6_isTick wsX6_isTick) := goodIn_app (goodIn_of _ (by decide +kernel)) ggX6_fits_X6_isTick
set_option maxRecDepth 20000 in
theorem ggX6_fits_X6_in : GoodIn wsX6_fits wsX6_in := goodIn_r _ [8] (by decide +kernel) (by decide +kernel)
set_option maxRecDepth 20000 in
theorem gX6_fits_X6_in : GoodIn wsX6_fits (va_wsS RX6 29 yX6_in wsX6_in) := goodIn_app (goodIn_of _ (by decide +kernel)) ggX6_fits_X6_in
set_option maxRecDepth 20000 in
theorem ggX6_fits_X6_fit : GoodIn wsX6_fits wsX6_fit := goodIn_r _ [19, 20, 21, 22, 4, 23, 24, 25, 26, 27, 28, 29, 30, 31, 32, 33, 34, 35, 36, 37, 38, 39, 40, 41, 42, 43, 44, 45, 46, 47, 48, 49, 50, 51, 52] (by decide +kernel) (by decide +kernel)
set_option maxRecDepth 20000 in
theorem gX6_fits_X6_fit : GoodIn wsX6_fits (wsV RX6 162 RX6 yX6_fit wsX6_fit) := goodIn_app (goodIn_of _ (by decide +kernel)) ggX6_fits_X6_fit
theorem dX6_fits_0 : decode cX6_fits 0 = .ok (.aload_n 0, 1) := by decide +kernel
theorem dX6_fits_1 : decode cX6_fits 1 = .ok (.iconst 0, 1) := by decide +kernel
theorem dX6_fits_2 : decode cX6_fits 2 = .ok (.putfield 25, 3) := by decide +kernel
theorem dX6_fits_5 : decode cX6_fits 5 = .ok (.iload_n 2, 1) := by decide +kernel
theorem dX6_fits_6 : decode cX6_fits 6 = .ok (.invokestatic 78, 3) := by decide +kernel
theorem dX6_fits_9 : decode cX6_fits 9 = .ok (.ifCond .ne 9, 3) := by decide +kernel
theorem dX6_fits_12 : decode cX6_fits 12 = .ok (.aload_n 0, 1) := by decide +kernel
theorem dX6_fits_13 : decode cX6_fits 13 = .ok (.iconst 1, 1) := by decide +kernel
theorem dX6_fits_14 : decode cX6_fits 14 = .ok (.invokevirtual 40, 3) := by decide +kernel
theorem dX6_fits_17 : decode cX6_fits 17 = .ok (.ireturn, 1) := by decide +kernel
theorem dX6_fits_18 : decode cX6_fits 18 = .ok (.iload_n 1, 1) := by decide +kernel
theorem dX6_fits_19 : decode cX6_fits 19 = .ok (.invokestatic 97, 3) := by decide +kernel
theorem dX6_fits_22 : decode cX6_fits 22 = .ok (.ifCond .eq 23, 3) := by decide +kernel
theorem dX6_fits_25 : decode cX6_fits 25 = .ok (.iload_n 3, 1) := by decide +kernel
theorem dX6_fits_26 : decode cX6_fits 26 = .ok (.iconst 0, 1) := by decide +kernel
theorem dX6_fits_27 : decode cX6_fits 27 = .ok (.bipush 10, 2) := by decide +kernel
theorem dX6_fits_29 : decode cX6_fits 29 = .ok (.invokestatic 29, 3) := by decide +kernel
theorem dX6_fits_32 : decode cX6_fits 32 = .ok (.ifCond .eq 13, 3) := by decide +kernel
theorem dX6_fits_35 : decode cX6_fits 35 = .ok (.aload_n 0, 1) := by decide +kernel
theorem dX6_fits_36 : decode cX6_fits 36 = .ok (.iload_n 1, 1) := by decide +kernel
theorem dX6_fits_37 : decode cX6_fits 37 = .ok (.iload_n 2, 1) := by decide +kernel
theorem dX6_fits_38 : decode cX6_fits 38 = .ok (.iload_n 3, 1) := by decide +kernel
theorem dX6_fits_39 : decode cX6_fits 39 = .ok (.invokevirtual 162, 3) := by decide +kernel
theorem dX6_fits_42 : decode cX6_fits 42 = .ok (.goto 8, 3) := by decide +kernel
theorem dX6_fits_45 : decode cX6_fits 45 = .ok (.aload_n 0, 1) := by decide +kernel
theorem dX6_fits_46 : decode cX6_fits 46 = .ok (.iconst 2, 1) := by decide +kernel
theorem dX6_fits_47 : decode cX6_fits 47 = .ok (.invokevirtual 40, 3) := by decide +kernel
theorem dX6_fits_50 : decode cX6_fits 50 = .ok (.ireturn, 1) := by decide +kernel
set_option maxRecDepth 20000 in
theorem ggX6_lasts_X6_copies : GoodIn wsX6_lasts wsX6_copies := goodIn_r _ [6] (by decide +kernel) (by decide +kernel)
set_option maxRecDepth 20000 in
theorem gX6_lasts_X6_copies : GoodIn wsX6_lasts (va_wsS RX6 36 yX6_copies wsX6_copies) := goodIn_app (goodIn_of _ (by decide +kernel)) ggX6_lasts_X6_copies
set_option maxRecDepth 20000 in
theorem ggX6_lasts_X6_tick : GoodIn wsX6_lasts wsX6_tick := goodIn_r _ [10, 11, 12, 13, 14, 5, 15, 16, 17, 18, 19, 20, 21, 22, 23, 24, 25, 26, 27, 28, 29, 30, 31, 32, 33, 34, 35, 36, 37, 38, 39, 40, 41, 42, 43, 44, 45, 46, 47, 48, 49, 50] (by decide +kernel) (by decide +kernel)
set_option maxRecDepth 20000 in
theorem gX6_lasts_X6_tick : GoodIn wsX6_lasts (wsV RX6 107 RX6 yX6_tick wsX6_tick) := goodIn_app (goodIn_of _ (by decide +kernel)) ggX6_lasts_X6_tick
theorem dX6_lasts_0 : decode cX6_lasts 0 = .ok (.aload_n 0, 1) := by decide +kernel
theorem dX6_lasts_1 : decode cX6_lasts 1 = .ok (.getfield 7, 3) := by decide +kernel
theorem dX6_lasts_4 : decode cX6_lasts 4 = .ok (.iconst 0, 1) := by decide +kernel
theorem dX6_lasts_5 : decode cX6_lasts 5 = .ok (.aload_n 0, 1) := by decide +kernel
theorem dX6_lasts_6 : decode cX6_lasts 6 = .ok (.getfield 13, 3) := by decide +kernel
theorem dX6_lasts_9 : decode cX6_lasts 9 = .ok (.iconst 0, 1) := by decide +kernel
theorem dX6_lasts_10 : decode cX6_lasts 10 = .ok (.invokestatic 36, 3) := by decide +kernel
theorem dX6_lasts_13 : decode cX6_lasts 13 = .ok (.iconst 1, 1) := by decide +kernel
theorem dX6_lasts_14 : decode cX6_lasts 14 = .ok (.istore_n 1, 1) := by decide +kernel
theorem dX6_lasts_15 : decode cX6_lasts 15 = .ok (.iload_n 1, 1) := by decide +kernel
theorem dX6_lasts_16 : decode cX6_lasts 16 = .ok (.sipush 500, 3) := by decide +kernel
theorem dX6_lasts_19 : decode cX6_lasts 19 = .ok (.if_icmp .gt 36, 3) := by decide +kernel
theorem dX6_lasts_22 : decode cX6_lasts 22 = .ok (.aload_n 0, 1) := by decide +kernel
theorem dX6_lasts_23 : decode cX6_lasts 23 = .ok (.aload_n 0, 1) := by decide +kernel
theorem dX6_lasts_24 : decode cX6_lasts 24 = .ok (.getfield 13, 3) := by decide +kernel
theorem dX6_lasts_27 : decode cX6_lasts 27 = .ok (.invokevirtual 107, 3) := by decide +kernel
theorem dX6_lasts_30 : decode cX6_lasts 30 = .ok (.aload_n 0, 1) := by decide +kernel
theorem dX6_lasts_31 : decode cX6_lasts 31 = .ok (.getfield 13, 3) := by decide +kernel
theorem dX6_lasts_34 : decode cX6_lasts 34 = .ok (.bipush 11, 2) := by decide +kernel
theorem dX6_lasts_36 : decode cX6_lasts 36 = .ok (.iaload, 1) := by decide +kernel
theorem dX6_lasts_37 : decode cX6_lasts 37 = .ok (.aload_n 0, 1) := by decide +kernel
theorem dX6_lasts_38 : decode cX6_lasts 38 = .ok (.getfield 7, 3) := by decide +kernel
theorem dX6_lasts_41 : decode cX6_lasts 41 = .ok (.bipush 11, 2) := by decide +kernel
theorem dX6_lasts_43 : decode cX6_lasts 43 = .ok (.iaload, 1) := by decide +kernel
theorem dX6_lasts_44 : decode cX6_lasts 44 = .ok (.if_icmp .le 5, 3) := by decide +kernel
theorem dX6_lasts_47 : decode cX6_lasts 47 = .ok (.iload_n 1, 1) := by decide +kernel
theorem dX6_lasts_48 : decode cX6_lasts 48 = .ok (.ireturn, 1) := by decide +kernel
theorem dX6_lasts_49 : decode cX6_lasts 49 = .ok (.iinc 1 1, 3) := by decide +kernel
theorem dX6_lasts_52 : decode cX6_lasts 52 = .ok (.goto (-37), 3) := by decide +kernel
theorem dX6_lasts_55 : decode cX6_lasts 55 = .ok (.iconst (-1), 1) := by decide +kernel
theorem dX6_lasts_56 : decode cX6_lasts 56 = .ok (.ireturn, 1) := by decide +kernel
set_option maxRecDepth 20000 in
theorem ggX6_dryIn_X6_lasts : GoodIn wsX6_dryIn wsX6_lasts := goodIn_r _ [6, 7, 8, 9, 10, 5, 11, 12, 13, 14, 15, 16, 17, 18, 19, 20, 21, 22, 23, 24, 25, 26, 27, 28, 29, 30, 31, 32, 33, 34, 35, 36, 37, 38, 39, 40, 41, 42, 43, 44, 45, 46, 47, 48, 49, 50, 51, 52, 53, 54, 55] (by decide +kernel) (by decide +kernel)
set_option maxRecDepth 20000 in
theorem gX6_dryIn_X6_lasts : GoodIn wsX6_dryIn (wsV RX6 165 RX6 yX6_lasts wsX6_lasts) := goodIn_app (goodIn_of _ (by decide +kernel)) ggX6_dryIn_X6_lasts
theorem dX6_dryIn_0 : decode cX6_dryIn 0 = .ok (.aload_n 0, 1) := by decide +kernel
theorem dX6_dryIn_1 : decode cX6_dryIn 1 = .ok (.iconst 0, 1) := by decide +kernel
theorem dX6_dryIn_2 : decode cX6_dryIn 2 = .ok (.putfield 25, 3) := by decide +kernel
theorem dX6_dryIn_5 : decode cX6_dryIn 5 = .ok (.aload_n 0, 1) := by decide +kernel
theorem dX6_dryIn_6 : decode cX6_dryIn 6 = .ok (.invokevirtual 165, 3) := by decide +kernel
theorem dX6_dryIn_9 : decode cX6_dryIn 9 = .ok (.ireturn, 1) := by decide +kernel
set_option maxRecDepth 20000 in
theorem ggX6_part_X6_pumpAsks : GoodIn wsX6_part wsX6_pumpAsks := goodIn_r _ [5, 6, 7, 4, 8, 9, 10, 11] (by decide +kernel) (by decide +kernel)
set_option maxRecDepth 20000 in
theorem gX6_part_X6_pumpAsks : GoodIn wsX6_part (va_wsS RX6 52 yX6_pumpAsks wsX6_pumpAsks) := goodIn_app (goodIn_of _ (by decide +kernel)) ggX6_part_X6_pumpAsks
set_option maxRecDepth 20000 in
theorem ggX6_part_X6_allGet : GoodIn wsX6_part wsX6_allGet := goodIn_r _ [14, 15, 16, 4, 17, 2, 3, 5, 6, 7, 8, 9, 10, 11] (by decide +kernel) (by decide +kernel)
set_option maxRecDepth 20000 in
theorem gX6_part_X6_allGet : GoodIn wsX6_part (va_wsS RX6 71 yX6_allGet wsX6_allGet) := goodIn_app (goodIn_of _ (by decide +kernel)) ggX6_part_X6_allGet
theorem dX6_part_0 : decode cX6_part 0 = .ok (.aload_n 0, 1) := by decide +kernel
theorem dX6_part_1 : decode cX6_part 1 = .ok (.getfield 7, 3) := by decide +kernel
theorem dX6_part_4 : decode cX6_part 4 = .ok (.iconst 0, 1) := by decide +kernel
theorem dX6_part_5 : decode cX6_part 5 = .ok (.invokestatic 52, 3) := by decide +kernel
theorem dX6_part_8 : decode cX6_part 8 = .ok (.aload_n 0, 1) := by decide +kernel
theorem dX6_part_9 : decode cX6_part 9 = .ok (.getfield 7, 3) := by decide +kernel
theorem dX6_part_12 : decode cX6_part 12 = .ok (.iconst 1, 1) := by decide +kernel
theorem dX6_part_13 : decode cX6_part 13 = .ok (.invokestatic 52, 3) := by decide +kernel
theorem dX6_part_16 : decode cX6_part 16 = .ok (.iadd, 1) := by decide +kernel
theorem dX6_part_17 : decode cX6_part 17 = .ok (.istore_n 1, 1) := by decide +kernel
theorem dX6_part_18 : decode cX6_part 18 = .ok (.iload_n 1, 1) := by decide +kernel
theorem dX6_part_19 : decode cX6_part 19 = .ok (.ifCond .ne 7, 3) := by decide +kernel
theorem dX6_part_22 : decode cX6_part 22 = .ok (.dconst 1, 1) := by decide +kernel
theorem dX6_part_23 : decode cX6_part 23 = .ok (.goto 14, 3) := by decide +kernel
theorem dX6_part_26 : decode cX6_part 26 = .ok (.aload_n 0, 1) := by decide +kernel
theorem dX6_part_27 : decode cX6_part 27 = .ok (.getfield 7, 3) := by decide +kernel
theorem dX6_part_30 : decode cX6_part 30 = .ok (.invokestatic 71, 3) := by decide +kernel
theorem dX6_part_33 : decode cX6_part 33 = .ok (.i2d, 1) := by decide +kernel
theorem dX6_part_34 : decode cX6_part 34 = .ok (.iload_n 1, 1) := by decide +kernel
theorem dX6_part_35 : decode cX6_part 35 = .ok (.i2d, 1) := by decide +kernel
theorem dX6_part_36 : decode cX6_part 36 = .ok (.ddiv, 1) := by decide +kernel
theorem dX6_part_37 : decode cX6_part 37 = .ok (.dreturn, 1) := by decide +kernel
set_option maxRecDepth 20000 in
theorem ggX6_share_X6_part : GoodIn wsX6_share wsX6_part := goodIn_r _ [6, 7, 8, 9, 5, 10, 11, 12, 13, 14, 15, 16, 17, 18, 19, 20, 21, 22, 23, 24, 25, 26, 27, 28, 29, 30, 31, 32, 33, 34, 35, 36] (by decide +kernel) (by decide +kernel)
set_option maxRecDepth 20000 in
theorem gX6_share_X6_part : GoodIn wsX6_share (wsV RX6 168 RX6 yX6_part wsX6_part) := goodIn_app (goodIn_of _ (by decide +kernel)) ggX6_share_X6_part
theorem dX6_share_0 : decode cX6_share 0 = .ok (.aload_n 0, 1) := by decide +kernel
theorem dX6_share_1 : decode cX6_share 1 = .ok (.iconst 0, 1) := by decide +kernel
theorem dX6_share_2 : decode cX6_share 2 = .ok (.putfield 25, 3) := by decide +kernel
theorem dX6_share_5 : decode cX6_share 5 = .ok (.aload_n 0, 1) := by decide +kernel
theorem dX6_share_6 : decode cX6_share 6 = .ok (.invokevirtual 168, 3) := by decide +kernel
theorem dX6_share_9 : decode cX6_share 9 = .ok (.dreturn, 1) := by decide +kernel
set_option maxRecDepth 20000 in
theorem ggX6_digest_X6_counted : GoodIn wsX6_digest wsX6_counted := goodIn_r _ [11, 4, 12, 13, 14, 15, 10, 16, 17, 18, 19, 20, 21, 22, 23, 24, 25, 26, 27, 28, 29, 30, 31, 103, 104, 105, 106, 107, 108, 109, 110, 111, 112, 113, 114, 115, 116] (by decide +kernel) (by decide +kernel)
set_option maxRecDepth 20000 in
theorem gX6_digest_X6_counted : GoodIn wsX6_digest (wsV RX6 153 RX6 yX6_counted wsX6_counted) := goodIn_app (goodIn_of _ (by decide +kernel)) ggX6_digest_X6_counted
set_option maxRecDepth 20000 in
theorem ggX6_digest_X6_ofJet : GoodIn wsX6_digest wsX6_ofJet := goodIn_r _ [35, 4, 29, 30, 10, 31, 26, 27, 28, 20, 21, 22, 23, 24, 25, 17, 18, 19, 103, 104, 105, 106, 107, 108, 109, 110, 111, 112, 113, 114, 115, 116] (by decide +kernel) (by decide +kernel)
set_option maxRecDepth 20000 in
theorem gX6_digest_X6_ofJet : GoodIn wsX6_digest (wsV RX6 143 RX6 yX6_ofJet wsX6_ofJet) := goodIn_app (goodIn_of _ (by decide +kernel)) ggX6_digest_X6_ofJet
set_option maxRecDepth 20000 in
theorem ggX6_digest_X6_ofPump : GoodIn wsX6_digest wsX6_ofPump := goodIn_r _ [39, 4, 20, 21, 10, 22, 23, 24, 25, 26, 27, 28, 29, 30, 31, 103, 104, 105, 106, 107, 108, 109, 110, 111, 112, 113, 114, 115, 116] (by decide +kernel) (by decide +kernel)
set_option maxRecDepth 20000 in
theorem gX6_digest_X6_ofPump : GoodIn wsX6_digest (wsV RX6 146 RX6 yX6_ofPump wsX6_ofPump) := goodIn_app (goodIn_of _ (by decide +kernel)) ggX6_digest_X6_ofPump
set_option maxRecDepth 20000 in
theorem ggX6_digest_X6_byPlaying : GoodIn wsX6_digest wsX6_byPlaying := goodIn_r _ [43, 4, 44, 45, 46, 47, 48, 10, 49, 50, 51, 52, 53, 54, 55, 56, 57, 58, 59, 29, 30, 31, 60, 61, 62, 20, 21, 22, 23, 24, 25, 26, 27, 28, 17, 18, 19, 103, 104, 105, 106, 107, 108, 109, 110, 111, 112, 113, 114, 115, 116] (by decide +kernel) (by decide +kernel)
set_option maxRecDepth 20000 in
theorem gX6_digest_X6_byPlaying : GoodIn wsX6_digest (wsV RX6 156 RX6 yX6_byPlaying wsX6_byPlaying) := goodIn_app (goodIn_of _ (by decide +kernel)) ggX6_digest_X6_byPlaying
set_option maxRecDepth 20000 in
theorem ggX6_digest_X6_greatest : GoodIn wsX6_digest wsX6_greatest := goodIn_r _ [66, 67, 68, 69, 10, 70, 4, 71, 72, 73, 74, 54, 55, 56, 29, 30, 31, 75, 76, 77, 78, 103, 104, 105, 106, 107, 108, 109, 110, 111, 112, 113, 114, 115, 116] (by decide +kernel) (by decide +kernel)
set_option maxRecDepth 20000 in
theorem gX6_digest_X6_greatest : GoodIn wsX6_digest (wsV RX6 159 RX6 yX6_greatest wsX6_greatest) := goodIn_app (goodIn_of _ (by decide +kernel)) ggX6_digest_X6_greatest
set_option maxRecDepth 20000 in
theorem ggX6_digest_X6_fit : GoodIn wsX6_digest wsX6_fit := goodIn_r _ [82, 67, 68, 69, 10, 70, 4, 71, 72, 73, 74, 54, 55, 56, 29, 30, 31, 75, 76, 77, 78, 103, 104, 105, 106, 107, 108, 109, 110, 111, 112, 113, 114, 115, 116] (by decide +kernel) (by decide +kernel)
set_option maxRecDepth 20000 in
theorem gX6_digest_X6_fit : GoodIn wsX6_digest (wsV RX6 162 RX6 yX6_fit wsX6_fit) := goodIn_app (goodIn_of _ (by decide +kernel)) ggX6_digest_X6_fit
set_option maxRecDepth 20000 in
theorem ggX6_digest_X6_lasts : GoodIn wsX6_digest wsX6_lasts := goodIn_r _ [86, 4, 44, 47, 48, 10, 49, 50, 51, 52, 53, 45, 46, 54, 55, 56, 57, 58, 59, 29, 30, 31, 60, 61, 62, 20, 21, 22, 23, 24, 25, 26, 27, 28, 17, 18, 19, 103, 104, 105, 106, 107, 108, 109, 110, 111, 112, 113, 114, 115, 116] (by decide +kernel) (by decide +kernel)
set_option maxRecDepth 20000 in
theorem gX6_digest_X6_lasts : GoodIn wsX6_digest (wsV RX6 165 RX6 yX6_lasts wsX6_lasts) := goodIn_app (goodIn_of _ (by decide +kernel)) ggX6_digest_X6_lasts
set_option maxRecDepth 20000 in
theorem ggX6_digest_X6_part : GoodIn wsX6_digest wsX6_part := goodIn_r _ [90, 4, 23, 24, 10, 25, 26, 27, 28, 29, 30, 31, 60, 61, 62, 20, 21, 22, 103, 104, 105, 106, 107, 108, 109, 110, 111, 112, 113, 114, 115, 116] (by decide +kernel) (by decide +kernel)
set_option maxRecDepth 20000 in
theorem gX6_digest_X6_part : GoodIn wsX6_digest (wsV RX6 168 RX6 yX6_part wsX6_part) := goodIn_app (goodIn_of _ (by decide +kernel)) ggX6_digest_X6_part
set_option maxRecDepth 20000 in
theorem ggX6_digest_Jxe99ae_doubleToLongBits_ccdee : GoodIn wsX6_digest wsJxe99ae_doubleToLongBits_ccdee := goodIn_r _ [94, 95, 96, 97, 98, 99, 100, 101, 93, 102] (by decide +kernel) (by decide +kernel)
set_option maxRecDepth 20000 in
theorem gX6_digest_Jxe99ae_doubleToLongBits_ccdee : GoodIn wsX6_digest (va_wsS RX6 176 yJxe99ae_doubleToLongBits_ccdee wsJxe99ae_doubleToLongBits_ccdee) := goodIn_app (goodIn_of _ (by decide +kernel)) ggX6_digest_Jxe99ae_doubleToLongBits_ccdee
theorem dX6_digest_0 : decode cX6_digest 0 = .ok (.aload_n 0, 1) := by decide +kernel
theorem dX6_digest_1 : decode cX6_digest 1 = .ok (.iconst 0, 1) := by decide +kernel
theorem dX6_digest_2 : decode cX6_digest 2 = .ok (.putfield 25, 3) := by decide +kernel
theorem dX6_digest_5 : decode cX6_digest 5 = .ok (.ldc2_w 172, 3) := by decide +kernel
theorem dX6_digest_8 : decode cX6_digest 8 = .ok (.lstore_n 1, 1) := by decide +kernel
theorem dX6_digest_9 : decode cX6_digest 9 = .ok (.iconst 0, 1) := by decide +kernel
theorem dX6_digest_10 : decode cX6_digest 10 = .ok (.istore_n 3, 1) := by decide +kernel
theorem dX6_digest_11 : decode cX6_digest 11 = .ok (.iload_n 3, 1) := by decide +kernel
theorem dX6_digest_12 : decode cX6_digest 12 = .ok (.bipush 10, 2) := by decide +kernel
theorem dX6_digest_14 : decode cX6_digest 14 = .ok (.if_icmp .ge 22, 3) := by decide +kernel
theorem dX6_digest_17 : decode cX6_digest 17 = .ok (.ldc2_w 174, 3) := by decide +kernel
theorem dX6_digest_20 : decode cX6_digest 20 = .ok (.lload_n 1, 1) := by decide +kernel
theorem dX6_digest_21 : decode cX6_digest 21 = .ok (.lmul, 1) := by decide +kernel
theorem dX6_digest_22 : decode cX6_digest 22 = .ok (.aload_n 0, 1) := by decide +kernel
theorem dX6_digest_23 : decode cX6_digest 23 = .ok (.iload_n 3, 1) := by decide +kernel
theorem dX6_digest_24 : decode cX6_digest 24 = .ok (.invokevirtual 153, 3) := by decide +kernel
theorem dX6_digest_27 : decode cX6_digest 27 = .ok (.i2l, 1) := by decide +kernel
theorem dX6_digest_28 : decode cX6_digest 28 = .ok (.ladd, 1) := by decide +kernel
theorem dX6_digest_29 : decode cX6_digest 29 = .ok (.lstore_n 1, 1) := by decide +kernel
theorem dX6_digest_30 : decode cX6_digest 30 = .ok (.iinc 3 1, 3) := by decide +kernel
theorem dX6_digest_33 : decode cX6_digest 33 = .ok (.goto (-22), 3) := by decide +kernel
theorem dX6_digest_36 : decode cX6_digest 36 = .ok (.iconst 0, 1) := by decide +kernel
theorem dX6_digest_37 : decode cX6_digest 37 = .ok (.istore_n 3, 1) := by decide +kernel
theorem dX6_digest_38 : decode cX6_digest 38 = .ok (.iload_n 3, 1) := by decide +kernel
theorem dX6_digest_39 : decode cX6_digest 39 = .ok (.iconst 3, 1) := by decide +kernel
theorem dX6_digest_40 : decode cX6_digest 40 = .ok (.if_icmp .ge 23, 3) := by decide +kernel
theorem dX6_digest_43 : decode cX6_digest 43 = .ok (.ldc2_w 174, 3) := by decide +kernel
theorem dX6_digest_46 : decode cX6_digest 46 = .ok (.lload_n 1, 1) := by decide +kernel
theorem dX6_digest_47 : decode cX6_digest 47 = .ok (.lmul, 1) := by decide +kernel
theorem dX6_digest_48 : decode cX6_digest 48 = .ok (.aload_n 0, 1) := by decide +kernel
theorem dX6_digest_49 : decode cX6_digest 49 = .ok (.getfield 7, 3) := by decide +kernel
theorem dX6_digest_52 : decode cX6_digest 52 = .ok (.iload_n 3, 1) := by decide +kernel
theorem dX6_digest_53 : decode cX6_digest 53 = .ok (.iaload, 1) := by decide +kernel
theorem dX6_digest_54 : decode cX6_digest 54 = .ok (.i2l, 1) := by decide +kernel
theorem dX6_digest_55 : decode cX6_digest 55 = .ok (.ladd, 1) := by decide +kernel
theorem dX6_digest_56 : decode cX6_digest 56 = .ok (.lstore_n 1, 1) := by decide +kernel
theorem dX6_digest_57 : decode cX6_digest 57 = .ok (.iinc 3 1, 3) := by decide +kernel
theorem dX6_digest_60 : decode cX6_digest 60 = .ok (.goto (-22), 3) := by decide +kernel
theorem dX6_digest_63 : decode cX6_digest 63 = .ok (.iconst 0, 1) := by decide +kernel
theorem dX6_digest_64 : decode cX6_digest 64 = .ok (.istore_n 3, 1) := by decide +kernel
theorem dX6_digest_65 : decode cX6_digest 65 = .ok (.iload_n 3, 1) := by decide +kernel
theorem dX6_digest_66 : decode cX6_digest 66 = .ok (.bipush 64, 2) := by decide +kernel
theorem dX6_digest_68 : decode cX6_digest 68 = .ok (.if_icmp .ge 29, 3) := by decide +kernel
theorem dX6_digest_71 : decode cX6_digest 71 = .ok (.ldc2_w 174, 3) := by decide +kernel
theorem dX6_digest_74 : decode cX6_digest 74 = .ok (.lload_n 1, 1) := by decide +kernel
theorem dX6_digest_75 : decode cX6_digest 75 = .ok (.lmul, 1) := by decide +kernel
theorem dX6_digest_76 : decode cX6_digest 76 = .ok (.aload_n 0, 1) := by decide +kernel
theorem dX6_digest_77 : decode cX6_digest 77 = .ok (.iload_n 3, 1) := by decide +kernel
theorem dX6_digest_78 : decode cX6_digest 78 = .ok (.bipush 8, 2) := by decide +kernel
theorem dX6_digest_80 : decode cX6_digest 80 = .ok (.idiv, 1) := by decide +kernel
theorem dX6_digest_81 : decode cX6_digest 81 = .ok (.iload_n 3, 1) := by decide +kernel
theorem dX6_digest_82 : decode cX6_digest 82 = .ok (.bipush 8, 2) := by decide +kernel
theorem dX6_digest_84 : decode cX6_digest 84 = .ok (.irem, 1) := by decide +kernel
theorem dX6_digest_85 : decode cX6_digest 85 = .ok (.invokevirtual 143, 3) := by decide +kernel
theorem dX6_digest_88 : decode cX6_digest 88 = .ok (.i2l, 1) := by decide +kernel
theorem dX6_digest_89 : decode cX6_digest 89 = .ok (.ladd, 1) := by decide +kernel
theorem dX6_digest_90 : decode cX6_digest 90 = .ok (.lstore_n 1, 1) := by decide +kernel
theorem dX6_digest_91 : decode cX6_digest 91 = .ok (.iinc 3 1, 3) := by decide +kernel
theorem dX6_digest_94 : decode cX6_digest 94 = .ok (.goto (-29), 3) := by decide +kernel
theorem dX6_digest_97 : decode cX6_digest 97 = .ok (.iconst 0, 1) := by decide +kernel
theorem dX6_digest_98 : decode cX6_digest 98 = .ok (.istore_n 3, 1) := by decide +kernel
theorem dX6_digest_99 : decode cX6_digest 99 = .ok (.iload_n 3, 1) := by decide +kernel
theorem dX6_digest_100 : decode cX6_digest 100 = .ok (.bipush 6, 2) := by decide +kernel
theorem dX6_digest_102 : decode cX6_digest 102 = .ok (.if_icmp .ge 27, 3) := by decide +kernel
theorem dX6_digest_105 : decode cX6_digest 105 = .ok (.ldc2_w 174, 3) := by decide +kernel
theorem dX6_digest_108 : decode cX6_digest 108 = .ok (.lload_n 1, 1) := by decide +kernel
theorem dX6_digest_109 : decode cX6_digest 109 = .ok (.lmul, 1) := by decide +kernel
theorem dX6_digest_110 : decode cX6_digest 110 = .ok (.aload_n 0, 1) := by decide +kernel
theorem dX6_digest_111 : decode cX6_digest 111 = .ok (.iload_n 3, 1) := by decide +kernel
theorem dX6_digest_112 : decode cX6_digest 112 = .ok (.iconst 3, 1) := by decide +kernel
theorem dX6_digest_113 : decode cX6_digest 113 = .ok (.idiv, 1) := by decide +kernel
theorem dX6_digest_114 : decode cX6_digest 114 = .ok (.iload_n 3, 1) := by decide +kernel
theorem dX6_digest_115 : decode cX6_digest 115 = .ok (.iconst 3, 1) := by decide +kernel
theorem dX6_digest_116 : decode cX6_digest 116 = .ok (.irem, 1) := by decide +kernel
theorem dX6_digest_117 : decode cX6_digest 117 = .ok (.invokevirtual 146, 3) := by decide +kernel
theorem dX6_digest_120 : decode cX6_digest 120 = .ok (.i2l, 1) := by decide +kernel
theorem dX6_digest_121 : decode cX6_digest 121 = .ok (.ladd, 1) := by decide +kernel
theorem dX6_digest_122 : decode cX6_digest 122 = .ok (.lstore_n 1, 1) := by decide +kernel
theorem dX6_digest_123 : decode cX6_digest 123 = .ok (.iinc 3 1, 3) := by decide +kernel
theorem dX6_digest_126 : decode cX6_digest 126 = .ok (.goto (-27), 3) := by decide +kernel
theorem dX6_digest_129 : decode cX6_digest 129 = .ok (.iconst 0, 1) := by decide +kernel
theorem dX6_digest_130 : decode cX6_digest 130 = .ok (.istore_n 3, 1) := by decide +kernel
theorem dX6_digest_131 : decode cX6_digest 131 = .ok (.iload_n 3, 1) := by decide +kernel
theorem dX6_digest_132 : decode cX6_digest 132 = .ok (.iconst 4, 1) := by decide +kernel
theorem dX6_digest_133 : decode cX6_digest 133 = .ok (.aload_n 0, 1) := by decide +kernel
theorem dX6_digest_134 : decode cX6_digest 134 = .ok (.getfield 7, 3) := by decide +kernel
theorem dX6_digest_137 : decode cX6_digest 137 = .ok (.bipush 8, 2) := by decide +kernel
theorem dX6_digest_139 : decode cX6_digest 139 = .ok (.iaload, 1) := by decide +kernel
theorem dX6_digest_140 : decode cX6_digest 140 = .ok (.imul, 1) := by decide +kernel
theorem dX6_digest_141 : decode cX6_digest 141 = .ok (.if_icmp .ge 26, 3) := by decide +kernel
theorem dX6_digest_144 : decode cX6_digest 144 = .ok (.ldc2_w 174, 3) := by decide +kernel
theorem dX6_digest_147 : decode cX6_digest 147 = .ok (.lload_n 1, 1) := by decide +kernel
theorem dX6_digest_148 : decode cX6_digest 148 = .ok (.lmul, 1) := by decide +kernel
theorem dX6_digest_149 : decode cX6_digest 149 = .ok (.aload_n 0, 1) := by decide +kernel
theorem dX6_digest_150 : decode cX6_digest 150 = .ok (.getfield 7, 3) := by decide +kernel
theorem dX6_digest_153 : decode cX6_digest 153 = .ok (.bipush 54, 2) := by decide +kernel
theorem dX6_digest_155 : decode cX6_digest 155 = .ok (.iload_n 3, 1) := by decide +kernel
theorem dX6_digest_156 : decode cX6_digest 156 = .ok (.iadd, 1) := by decide +kernel
theorem dX6_digest_157 : decode cX6_digest 157 = .ok (.iaload, 1) := by decide +kernel
theorem dX6_digest_158 : decode cX6_digest 158 = .ok (.i2l, 1) := by decide +kernel
theorem dX6_digest_159 : decode cX6_digest 159 = .ok (.ladd, 1) := by decide +kernel
theorem dX6_digest_160 : decode cX6_digest 160 = .ok (.lstore_n 1, 1) := by decide +kernel
theorem dX6_digest_161 : decode cX6_digest 161 = .ok (.iinc 3 1, 3) := by decide +kernel
theorem dX6_digest_164 : decode cX6_digest 164 = .ok (.goto (-33), 3) := by decide +kernel
theorem dX6_digest_167 : decode cX6_digest 167 = .ok (.iconst 0, 1) := by decide +kernel
theorem dX6_digest_168 : decode cX6_digest 168 = .ok (.istore_n 3, 1) := by decide +kernel
theorem dX6_digest_169 : decode cX6_digest 169 = .ok (.iload_n 3, 1) := by decide +kernel
theorem dX6_digest_170 : decode cX6_digest 170 = .ok (.iconst 4, 1) := by decide +kernel
theorem dX6_digest_171 : decode cX6_digest 171 = .ok (.if_icmp .ge 24, 3) := by decide +kernel
theorem dX6_digest_174 : decode cX6_digest 174 = .ok (.ldc2_w 174, 3) := by decide +kernel
theorem dX6_digest_177 : decode cX6_digest 177 = .ok (.lload_n 1, 1) := by decide +kernel
theorem dX6_digest_178 : decode cX6_digest 178 = .ok (.lmul, 1) := by decide +kernel
theorem dX6_digest_179 : decode cX6_digest 179 = .ok (.aload_n 0, 1) := by decide +kernel
theorem dX6_digest_180 : decode cX6_digest 180 = .ok (.bipush 9, 2) := by decide +kernel
theorem dX6_digest_182 : decode cX6_digest 182 = .ok (.iload_n 3, 1) := by decide +kernel
theorem dX6_digest_183 : decode cX6_digest 183 = .ok (.invokevirtual 156, 3) := by decide +kernel
theorem dX6_digest_186 : decode cX6_digest 186 = .ok (.i2l, 1) := by decide +kernel
theorem dX6_digest_187 : decode cX6_digest 187 = .ok (.ladd, 1) := by decide +kernel
theorem dX6_digest_188 : decode cX6_digest 188 = .ok (.lstore_n 1, 1) := by decide +kernel
theorem dX6_digest_189 : decode cX6_digest 189 = .ok (.iinc 3 1, 3) := by decide +kernel
theorem dX6_digest_192 : decode cX6_digest 192 = .ok (.goto (-23), 3) := by decide +kernel
theorem dX6_digest_195 : decode cX6_digest 195 = .ok (.iconst 0, 1) := by decide +kernel
theorem dX6_digest_196 : decode cX6_digest 196 = .ok (.istore_n 3, 1) := by decide +kernel
theorem dX6_digest_197 : decode cX6_digest 197 = .ok (.iload_n 3, 1) := by decide +kernel
theorem dX6_digest_198 : decode cX6_digest 198 = .ok (.bipush 8, 2) := by decide +kernel
theorem dX6_digest_200 : decode cX6_digest 200 = .ok (.if_icmp .ge 39, 3) := by decide +kernel
theorem dX6_digest_203 : decode cX6_digest 203 = .ok (.ldc2_w 174, 3) := by decide +kernel
theorem dX6_digest_206 : decode cX6_digest 206 = .ok (.ldc2_w 174, 3) := by decide +kernel
theorem dX6_digest_209 : decode cX6_digest 209 = .ok (.lload_n 1, 1) := by decide +kernel
theorem dX6_digest_210 : decode cX6_digest 210 = .ok (.lmul, 1) := by decide +kernel
theorem dX6_digest_211 : decode cX6_digest 211 = .ok (.aload_n 0, 1) := by decide +kernel
theorem dX6_digest_212 : decode cX6_digest 212 = .ok (.bipush 20, 2) := by decide +kernel
theorem dX6_digest_214 : decode cX6_digest 214 = .ok (.iload_n 3, 1) := by decide +kernel
theorem dX6_digest_215 : decode cX6_digest 215 = .ok (.invokevirtual 159, 3) := by decide +kernel
theorem dX6_digest_218 : decode cX6_digest 218 = .ok (.i2l, 1) := by decide +kernel
theorem dX6_digest_219 : decode cX6_digest 219 = .ok (.ladd, 1) := by decide +kernel
theorem dX6_digest_220 : decode cX6_digest 220 = .ok (.lmul, 1) := by decide +kernel
theorem dX6_digest_221 : decode cX6_digest 221 = .ok (.aload_n 0, 1) := by decide +kernel
theorem dX6_digest_222 : decode cX6_digest 222 = .ok (.bipush 20, 2) := by decide +kernel
theorem dX6_digest_224 : decode cX6_digest 224 = .ok (.iload_n 3, 1) := by decide +kernel
theorem dX6_digest_225 : decode cX6_digest 225 = .ok (.bipush 10, 2) := by decide +kernel
theorem dX6_digest_227 : decode cX6_digest 227 = .ok (.invokevirtual 162, 3) := by decide +kernel
theorem dX6_digest_230 : decode cX6_digest 230 = .ok (.i2l, 1) := by decide +kernel
theorem dX6_digest_231 : decode cX6_digest 231 = .ok (.ladd, 1) := by decide +kernel
theorem dX6_digest_232 : decode cX6_digest 232 = .ok (.lstore_n 1, 1) := by decide +kernel
theorem dX6_digest_233 : decode cX6_digest 233 = .ok (.iinc 3 1, 3) := by decide +kernel
theorem dX6_digest_236 : decode cX6_digest 236 = .ok (.goto (-39), 3) := by decide +kernel
theorem dX6_digest_239 : decode cX6_digest 239 = .ok (.ldc2_w 174, 3) := by decide +kernel
theorem dX6_digest_242 : decode cX6_digest 242 = .ok (.lload_n 1, 1) := by decide +kernel
theorem dX6_digest_243 : decode cX6_digest 243 = .ok (.lmul, 1) := by decide +kernel
theorem dX6_digest_244 : decode cX6_digest 244 = .ok (.aload_n 0, 1) := by decide +kernel
theorem dX6_digest_245 : decode cX6_digest 245 = .ok (.invokevirtual 165, 3) := by decide +kernel
theorem dX6_digest_248 : decode cX6_digest 248 = .ok (.i2l, 1) := by decide +kernel
theorem dX6_digest_249 : decode cX6_digest 249 = .ok (.ladd, 1) := by decide +kernel
theorem dX6_digest_250 : decode cX6_digest 250 = .ok (.lstore_n 1, 1) := by decide +kernel
theorem dX6_digest_251 : decode cX6_digest 251 = .ok (.ldc2_w 174, 3) := by decide +kernel
theorem dX6_digest_254 : decode cX6_digest 254 = .ok (.ldc2_w 174, 3) := by decide +kernel
theorem dX6_digest_257 : decode cX6_digest 257 = .ok (.lload_n 1, 1) := by decide +kernel
theorem dX6_digest_258 : decode cX6_digest 258 = .ok (.lmul, 1) := by decide +kernel
theorem dX6_digest_259 : decode cX6_digest 259 = .ok (.aload_n 0, 1) := by decide +kernel
theorem dX6_digest_260 : decode cX6_digest 260 = .ok (.invokevirtual 168, 3) := by decide +kernel
theorem dX6_digest_263 : decode cX6_digest 263 = .ok (.invokestatic 176, 3) := by decide +kernel
theorem dX6_digest_266 : decode cX6_digest 266 = .ok (.ladd, 1) := by decide +kernel
theorem dX6_digest_267 : decode cX6_digest 267 = .ok (.lmul, 1) := by decide +kernel
theorem dX6_digest_268 : decode cX6_digest 268 = .ok (.aload_n 0, 1) := by decide +kernel
theorem dX6_digest_269 : decode cX6_digest 269 = .ok (.getfield 111, 3) := by decide +kernel
theorem dX6_digest_272 : decode cX6_digest 272 = .ok (.i2l, 1) := by decide +kernel
theorem dX6_digest_273 : decode cX6_digest 273 = .ok (.ladd, 1) := by decide +kernel
theorem dX6_digest_274 : decode cX6_digest 274 = .ok (.lstore_n 1, 1) := by decide +kernel
theorem dX6_digest_275 : decode cX6_digest 275 = .ok (.iconst 0, 1) := by decide +kernel
theorem dX6_digest_276 : decode cX6_digest 276 = .ok (.istore_n 3, 1) := by decide +kernel
theorem dX6_digest_277 : decode cX6_digest 277 = .ok (.iload_n 3, 1) := by decide +kernel
theorem dX6_digest_278 : decode cX6_digest 278 = .ok (.aload_n 0, 1) := by decide +kernel
theorem dX6_digest_279 : decode cX6_digest 279 = .ok (.getfield 111, 3) := by decide +kernel
theorem dX6_digest_282 : decode cX6_digest 282 = .ok (.if_icmp .ge 23, 3) := by decide +kernel
theorem dX6_digest_285 : decode cX6_digest 285 = .ok (.ldc2_w 174, 3) := by decide +kernel
theorem dX6_digest_288 : decode cX6_digest 288 = .ok (.lload_n 1, 1) := by decide +kernel
theorem dX6_digest_289 : decode cX6_digest 289 = .ok (.lmul, 1) := by decide +kernel
theorem dX6_digest_290 : decode cX6_digest 290 = .ok (.aload_n 0, 1) := by decide +kernel
theorem dX6_digest_291 : decode cX6_digest 291 = .ok (.getfield 19, 3) := by decide +kernel
theorem dX6_digest_294 : decode cX6_digest 294 = .ok (.iload_n 3, 1) := by decide +kernel
theorem dX6_digest_295 : decode cX6_digest 295 = .ok (.iaload, 1) := by decide +kernel
theorem dX6_digest_296 : decode cX6_digest 296 = .ok (.i2l, 1) := by decide +kernel
theorem dX6_digest_297 : decode cX6_digest 297 = .ok (.ladd, 1) := by decide +kernel
theorem dX6_digest_298 : decode cX6_digest 298 = .ok (.lstore_n 1, 1) := by decide +kernel
theorem dX6_digest_299 : decode cX6_digest 299 = .ok (.iinc 3 1, 3) := by decide +kernel
theorem dX6_digest_302 : decode cX6_digest 302 = .ok (.goto (-25), 3) := by decide +kernel
theorem dX6_digest_305 : decode cX6_digest 305 = .ok (.lload_n 1, 1) := by decide +kernel
theorem dX6_digest_306 : decode cX6_digest 306 = .ok (.lreturn, 1) := by decide +kernel
theorem dJxe99ae_isNaN_b9ae7_0 : decode cJxe99ae_isNaN_b9ae7 0 = .ok (.dload_n 0, 1) := by decide +kernel
theorem dJxe99ae_isNaN_b9ae7_1 : decode cJxe99ae_isNaN_b9ae7 1 = .ok (.dload_n 0, 1) := by decide +kernel
theorem dJxe99ae_isNaN_b9ae7_2 : decode cJxe99ae_isNaN_b9ae7 2 = .ok (.dcmp .l, 1) := by decide +kernel
theorem dJxe99ae_isNaN_b9ae7_3 : decode cJxe99ae_isNaN_b9ae7 3 = .ok (.ifCond .eq 7, 3) := by decide +kernel
theorem dJxe99ae_isNaN_b9ae7_6 : decode cJxe99ae_isNaN_b9ae7 6 = .ok (.iconst 1, 1) := by decide +kernel
theorem dJxe99ae_isNaN_b9ae7_7 : decode cJxe99ae_isNaN_b9ae7 7 = .ok (.goto 4, 3) := by decide +kernel
theorem dJxe99ae_isNaN_b9ae7_10 : decode cJxe99ae_isNaN_b9ae7 10 = .ok (.iconst 0, 1) := by decide +kernel
theorem dJxe99ae_isNaN_b9ae7_11 : decode cJxe99ae_isNaN_b9ae7 11 = .ok (.ireturn, 1) := by decide +kernel
set_option maxRecDepth 20000 in
theorem ggJxe99ae_doubleToLongBits_ccdee_Jxe99ae_isNaN_b9ae7 : GoodIn wsJxe99ae_doubleToLongBits_ccdee wsJxe99ae_isNaN_b9ae7 := goodIn_r _ [9] (by decide +kernel) (by decide +kernel)
set_option maxRecDepth 20000 in
theorem gJxe99ae_doubleToLongBits_ccdee_Jxe99ae_isNaN_b9ae7 : GoodIn wsJxe99ae_doubleToLongBits_ccdee (va_wsS RJxe99ae 122 yJxe99ae_isNaN_b9ae7 wsJxe99ae_isNaN_b9ae7) := goodIn_app (goodIn_of _ (by decide +kernel)) ggJxe99ae_doubleToLongBits_ccdee_Jxe99ae_isNaN_b9ae7
theorem dJxe99ae_doubleToLongBits_ccdee_0 : decode cJxe99ae_doubleToLongBits_ccdee 0 = .ok (.dload_n 0, 1) := by decide +kernel
theorem dJxe99ae_doubleToLongBits_ccdee_1 : decode cJxe99ae_doubleToLongBits_ccdee 1 = .ok (.invokestatic 122, 3) := by decide +kernel
theorem dJxe99ae_doubleToLongBits_ccdee_4 : decode cJxe99ae_doubleToLongBits_ccdee 4 = .ok (.ifCond .ne 8, 3) := by decide +kernel
theorem dJxe99ae_doubleToLongBits_ccdee_7 : decode cJxe99ae_doubleToLongBits_ccdee 7 = .ok (.dload_n 0, 1) := by decide +kernel
theorem dJxe99ae_doubleToLongBits_ccdee_8 : decode cJxe99ae_doubleToLongBits_ccdee 8 = .ok (.invokestatic 134, 3) := by decide +kernel
theorem dJxe99ae_doubleToLongBits_ccdee_11 : decode cJxe99ae_doubleToLongBits_ccdee 11 = .ok (.lreturn, 1) := by decide +kernel
theorem dJxe99ae_doubleToLongBits_ccdee_12 : decode cJxe99ae_doubleToLongBits_ccdee 12 = .ok (.ldc2_w 137, 3) := by decide +kernel
theorem dJxe99ae_doubleToLongBits_ccdee_15 : decode cJxe99ae_doubleToLongBits_ccdee 15 = .ok (.lreturn, 1) := by decide +kernel
theorem dJ9_max_7cf53_0 : decode cJ9_max_7cf53 0 = .ok (.iload_n 0, 1) := by decide +kernel
theorem dJ9_max_7cf53_1 : decode cJ9_max_7cf53 1 = .ok (.iload_n 1, 1) := by decide +kernel
theorem dJ9_max_7cf53_2 : decode cJ9_max_7cf53 2 = .ok (.if_icmp .lt 7, 3) := by decide +kernel
theorem dJ9_max_7cf53_5 : decode cJ9_max_7cf53 5 = .ok (.iload_n 0, 1) := by decide +kernel
theorem dJ9_max_7cf53_6 : decode cJ9_max_7cf53 6 = .ok (.goto 4, 3) := by decide +kernel
theorem dJ9_max_7cf53_9 : decode cJ9_max_7cf53 9 = .ok (.iload_n 1, 1) := by decide +kernel
theorem dJ9_max_7cf53_10 : decode cJ9_max_7cf53 10 = .ok (.ireturn, 1) := by decide +kernel
theorem dJ9_min_7cf53_0 : decode cJ9_min_7cf53 0 = .ok (.iload_n 0, 1) := by decide +kernel
theorem dJ9_min_7cf53_1 : decode cJ9_min_7cf53 1 = .ok (.iload_n 1, 1) := by decide +kernel
theorem dJ9_min_7cf53_2 : decode cJ9_min_7cf53 2 = .ok (.if_icmp .gt 7, 3) := by decide +kernel
theorem dJ9_min_7cf53_5 : decode cJ9_min_7cf53 5 = .ok (.iload_n 0, 1) := by decide +kernel
theorem dJ9_min_7cf53_6 : decode cJ9_min_7cf53 6 = .ok (.goto 4, 3) := by decide +kernel
theorem dJ9_min_7cf53_9 : decode cJ9_min_7cf53 9 = .ok (.iload_n 1, 1) := by decide +kernel
theorem dJ9_min_7cf53_10 : decode cJ9_min_7cf53 10 = .ok (.ireturn, 1) := by decide +kernel
