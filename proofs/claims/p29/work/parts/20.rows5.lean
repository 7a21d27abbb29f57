set_option maxRecDepth 20000 in
theorem ggX5_init_X4_init : GoodIn wsX5_init wsX4_init := goodIn_r _ [18, 19, 2, 3, 20, 21, 22, 23, 24, 25, 26, 27, 28, 29, 30, 31, 32, 33, 34, 35, 36, 37, 38, 39, 40, 41, 42, 43, 44, 45, 46, 47, 48, 77, 78, 79, 80, 81, 82, 83, 59, 60, 61, 62, 63, 64, 65, 66, 67, 68, 84, 85, 86, 87, 88, 89] (by decide +kernel) (by decide +kernel)
set_option maxRecDepth 20000 in
theorem gX5_init_X4_init_n9 : GoodIn wsX5_init (wsX4_init) := ggX5_init_X4_init
set_option maxRecDepth 20000 in
theorem ggX5_init_X3_init : GoodIn wsX5_init wsX3_init := goodIn_r _ [51, 52, 2, 3, 53, 54, 5, 6, 17, 18, 19, 20, 21, 22, 23, 24, 25, 26, 27, 28, 29, 30, 31, 32, 33, 34, 35, 36, 37, 38, 39, 40, 41, 42, 43, 44, 45, 46, 47, 48, 73, 74, 59, 60, 61, 62, 63, 64, 65, 66, 67, 68, 77, 78, 79, 80, 81, 82, 83, 84, 85, 86, 87, 88, 89] (by decide +kernel) (by decide +kernel)
set_option maxRecDepth 20000 in
theorem gX5_init_X3_init : GoodIn wsX5_init (wsX3_init) := ggX5_init_X3_init
set_option maxRecDepth 20000 in
theorem ggX5_init_X0_init : GoodIn wsX5_init wsX0_init := goodIn_r _ [56, 57, 2, 3, 28, 58, 75, 76] (by decide +kernel) (by decide +kernel)
set_option maxRecDepth 20000 in
theorem gX5_init_X0_init_n28 : GoodIn wsX5_init (wsX0_init) := ggX5_init_X0_init
theorem dX5_init_0 : decode cX5_init 0 = .ok (.aload_n 0, 1) := by decide +kernel
theorem dX5_init_1 : decode cX5_init 1 = .ok (.invokespecial 1, 3) := by decide +kernel
theorem dX5_init_4 : decode cX5_init 4 = .ok (.aload_n 0, 1) := by decide +kernel
theorem dX5_init_5 : decode cX5_init 5 = .ok (.new 7, 3) := by decide +kernel
theorem dX5_init_8 : decode cX5_init 8 = .ok (.dup, 1) := by decide +kernel
theorem dX5_init_9 : decode cX5_init 9 = .ok (.invokespecial 9, 3) := by decide +kernel
theorem dX5_init_12 : decode cX5_init 12 = .ok (.putfield 10, 3) := by decide +kernel
theorem dX5_init_15 : decode cX5_init 15 = .ok (.aload_n 0, 1) := by decide +kernel
theorem dX5_init_16 : decode cX5_init 16 = .ok (.new 7, 3) := by decide +kernel
theorem dX5_init_19 : decode cX5_init 19 = .ok (.dup, 1) := by decide +kernel
theorem dX5_init_20 : decode cX5_init 20 = .ok (.invokespecial 9, 3) := by decide +kernel
theorem dX5_init_23 : decode cX5_init 23 = .ok (.putfield 16, 3) := by decide +kernel
theorem dX5_init_26 : decode cX5_init 26 = .ok (.aload_n 0, 1) := by decide +kernel
theorem dX5_init_27 : decode cX5_init 27 = .ok (.new 19, 3) := by decide +kernel
theorem dX5_init_30 : decode cX5_init 30 = .ok (.dup, 1) := by decide +kernel
theorem dX5_init_31 : decode cX5_init 31 = .ok (.invokespecial 21, 3) := by decide +kernel
theorem dX5_init_34 : decode cX5_init 34 = .ok (.putfield 22, 3) := by decide +kernel
theorem dX5_init_37 : decode cX5_init 37 = .ok (.aload_n 0, 1) := by decide +kernel
theorem dX5_init_38 : decode cX5_init 38 = .ok (.new 26, 3) := by decide +kernel
theorem dX5_init_41 : decode cX5_init 41 = .ok (.dup, 1) := by decide +kernel
theorem dX5_init_42 : decode cX5_init 42 = .ok (.invokespecial 28, 3) := by decide +kernel
theorem dX5_init_45 : decode cX5_init 45 = .ok (.putfield 29, 3) := by decide +kernel
theorem dX5_init_48 : decode cX5_init 48 = .ok (.return_, 1) := by decide +kernel
set_option maxRecDepth 20000 in
theorem ggX5_jet_X5_needJet : GoodIn wsX5_jet wsX5_needJet := goodIn_ca (goodIn_r _ [9, 10, 11] (by decide +kernel) (by decide +kernel)) (goodIn_sub (fun _ h => List.mem_cons_of_mem _ (List.mem_append_left _ (List.mem_append_right _ h))) (by decide +kernel))
set_option maxRecDepth 20000 in
theorem gX5_jet_X5_needJet : GoodIn wsX5_jet (va_wsS RX5 33 yX5_needJet wsX5_needJet) := goodIn_app (goodIn_of _ (by decide +kernel)) ggX5_jet_X5_needJet
set_option maxRecDepth 20000 in
theorem ggX5_jet_X5_needWithin : GoodIn wsX5_jet wsX5_needWithin := goodIn_ca (goodIn_r _ [14, 15, 16] (by decide +kernel) (by decide +kernel)) (goodIn_sub (fun _ h => List.mem_cons_of_mem _ (List.mem_append_right _ h)) (by decide +kernel))
set_option maxRecDepth 20000 in
theorem gX5_jet_X5_needWithin : GoodIn wsX5_jet (va_wsS RX5 37 yX5_needWithin wsX5_needWithin) := goodIn_app (goodIn_of _ (by decide +kernel)) ggX5_jet_X5_needWithin
set_option maxRecDepth 20000 in
theorem ggX5_jet_X3_keep : GoodIn wsX5_jet wsX3_keep := goodIn_r _ [21, 22, 23, 24, 25, 26, 20, 27, 28, 29, 30, 31, 32, 33, 34, 35, 36, 37, 38, 39, 40, 41, 42, 43, 44, 45, 46, 47, 48, 49, 50, 51, 52, 53, 54, 8, 55, 56, 57, 58, 59, 60, 61, 62, 63, 64, 65, 66, 88, 89, 71, 72, 73, 74, 75, 76, 77, 78, 79, 80, 81, 82, 83, 84, 85, 86, 87, 90, 91, 92, 93, 94, 95] (by decide +kernel) (by decide +kernel)
set_option maxRecDepth 20000 in
theorem gX5_jet_X3_keep : GoodIn wsX5_jet (wsV RX5 41 RX3 yX3_keep wsX3_keep) := goodIn_app (goodIn_of _ (by decide +kernel)) ggX5_jet_X3_keep
theorem dX5_jet_0 : decode cX5_jet 0 = .ok (.iload_n 1, 1) := by decide +kernel
theorem dX5_jet_1 : decode cX5_jet 1 = .ok (.invokestatic 33, 3) := by decide +kernel
theorem dX5_jet_4 : decode cX5_jet 4 = .ok (.iload_n 2, 1) := by decide +kernel
theorem dX5_jet_5 : decode cX5_jet 5 = .ok (.iconst 1, 1) := by decide +kernel
theorem dX5_jet_6 : decode cX5_jet 6 = .ok (.bipush 20, 2) := by decide +kernel
theorem dX5_jet_8 : decode cX5_jet 8 = .ok (.invokestatic 37, 3) := by decide +kernel
theorem dX5_jet_11 : decode cX5_jet 11 = .ok (.iload_n 3, 1) := by decide +kernel
theorem dX5_jet_12 : decode cX5_jet 12 = .ok (.iconst 0, 1) := by decide +kernel
theorem dX5_jet_13 : decode cX5_jet 13 = .ok (.iconst 3, 1) := by decide +kernel
theorem dX5_jet_14 : decode cX5_jet 14 = .ok (.invokestatic 37, 3) := by decide +kernel
theorem dX5_jet_17 : decode cX5_jet 17 = .ok (.aload_n 0, 1) := by decide +kernel
theorem dX5_jet_18 : decode cX5_jet 18 = .ok (.getfield 22, 3) := by decide +kernel
theorem dX5_jet_21 : decode cX5_jet 21 = .ok (.aload_n 0, 1) := by decide +kernel
theorem dX5_jet_22 : decode cX5_jet 22 = .ok (.getfield 10, 3) := by decide +kernel
theorem dX5_jet_25 : decode cX5_jet 25 = .ok (.invokevirtual 41, 3) := by decide +kernel
theorem dX5_jet_28 : decode cX5_jet 28 = .ok (.aload_n 0, 1) := by decide +kernel
theorem dX5_jet_29 : decode cX5_jet 29 = .ok (.getfield 10, 3) := by decide +kernel
theorem dX5_jet_32 : decode cX5_jet 32 = .ok (.getfield 45, 3) := by decide +kernel
theorem dX5_jet_35 : decode cX5_jet 35 = .ok (.getfield 49, 3) := by decide +kernel
theorem dX5_jet_38 : decode cX5_jet 38 = .ok (.iload_n 1, 1) := by decide +kernel
theorem dX5_jet_39 : decode cX5_jet 39 = .ok (.iaload, 1) := by decide +kernel
theorem dX5_jet_40 : decode cX5_jet 40 = .ok (.istore 4, 2) := by decide +kernel
theorem dX5_jet_42 : decode cX5_jet 42 = .ok (.aload_n 0, 1) := by decide +kernel
theorem dX5_jet_43 : decode cX5_jet 43 = .ok (.getfield 10, 3) := by decide +kernel
theorem dX5_jet_46 : decode cX5_jet 46 = .ok (.getfield 45, 3) := by decide +kernel
theorem dX5_jet_49 : decode cX5_jet 49 = .ok (.getfield 49, 3) := by decide +kernel
theorem dX5_jet_52 : decode cX5_jet 52 = .ok (.iload_n 1, 1) := by decide +kernel
theorem dX5_jet_53 : decode cX5_jet 53 = .ok (.iload_n 2, 1) := by decide +kernel
theorem dX5_jet_54 : decode cX5_jet 54 = .ok (.iastore, 1) := by decide +kernel
theorem dX5_jet_55 : decode cX5_jet 55 = .ok (.aload_n 0, 1) := by decide +kernel
theorem dX5_jet_56 : decode cX5_jet 56 = .ok (.getfield 10, 3) := by decide +kernel
theorem dX5_jet_59 : decode cX5_jet 59 = .ok (.getfield 45, 3) := by decide +kernel
theorem dX5_jet_62 : decode cX5_jet 62 = .ok (.getfield 55, 3) := by decide +kernel
theorem dX5_jet_65 : decode cX5_jet 65 = .ok (.iload_n 1, 1) := by decide +kernel
theorem dX5_jet_66 : decode cX5_jet 66 = .ok (.iload_n 3, 1) := by decide +kernel
theorem dX5_jet_67 : decode cX5_jet 67 = .ok (.iastore, 1) := by decide +kernel
theorem dX5_jet_68 : decode cX5_jet 68 = .ok (.iload 4, 2) := by decide +kernel
theorem dX5_jet_70 : decode cX5_jet 70 = .ok (.ireturn, 1) := by decide +kernel
set_option maxRecDepth 20000 in
theorem ggX5_aim_X5_needJet : GoodIn wsX5_aim wsX5_needJet := goodIn_ca (goodIn_r _ [8, 9, 10] (by decide +kernel) (by decide +kernel)) (goodIn_sub (fun _ h => List.mem_cons_of_mem _ (List.mem_append_left _ (List.mem_append_right _ h))) (by decide +kernel))
set_option maxRecDepth 20000 in
theorem gX5_aim_X5_needJet : GoodIn wsX5_aim (va_wsS RX5 33 yX5_needJet wsX5_needJet) := goodIn_app (goodIn_of _ (by decide +kernel)) ggX5_aim_X5_needJet
set_option maxRecDepth 20000 in
theorem ggX5_aim_X5_needWithin : GoodIn wsX5_aim wsX5_needWithin := goodIn_ca (goodIn_r _ [13, 14, 15] (by decide +kernel) (by decide +kernel)) (goodIn_sub (fun _ h => List.mem_cons_of_mem _ (List.mem_append_right _ h)) (by decide +kernel))
set_option maxRecDepth 20000 in
theorem gX5_aim_X5_needWithin : GoodIn wsX5_aim (va_wsS RX5 37 yX5_needWithin wsX5_needWithin) := goodIn_app (goodIn_of _ (by decide +kernel)) ggX5_aim_X5_needWithin
set_option maxRecDepth 20000 in
theorem ggX5_aim_X3_keep : GoodIn wsX5_aim wsX3_keep := goodIn_r _ [20, 21, 22, 23, 24, 25, 19, 26, 27, 28, 29, 30, 31, 32, 33, 34, 35, 36, 37, 38, 39, 40, 41, 42, 43, 44, 45, 46, 47, 48, 49, 50, 51, 52, 53, 7, 54, 55, 56, 57, 58, 59, 60, 61, 62, 63, 64, 65, 87, 88, 70, 71, 72, 73, 74, 75, 76, 77, 78, 79, 80, 81, 82, 83, 84, 85, 86, 89, 90, 91, 92, 93, 94] (by decide +kernel) (by decide +kernel)
set_option maxRecDepth 20000 in
theorem gX5_aim_X3_keep : GoodIn wsX5_aim (wsV RX5 41 RX3 yX3_keep wsX3_keep) := goodIn_app (goodIn_of _ (by decide +kernel)) ggX5_aim_X3_keep
theorem dX5_aim_0 : decode cX5_aim 0 = .ok (.iload_n 1, 1) := by decide +kernel
theorem dX5_aim_1 : decode cX5_aim 1 = .ok (.invokestatic 33, 3) := by decide +kernel
theorem dX5_aim_4 : decode cX5_aim 4 = .ok (.iload_n 2, 1) := by decide +kernel
theorem dX5_aim_5 : decode cX5_aim 5 = .ok (.iconst 0, 1) := by decide +kernel
theorem dX5_aim_6 : decode cX5_aim 6 = .ok (.bipush 10, 2) := by decide +kernel
theorem dX5_aim_8 : decode cX5_aim 8 = .ok (.invokestatic 37, 3) := by decide +kernel
theorem dX5_aim_11 : decode cX5_aim 11 = .ok (.aload_n 0, 1) := by decide +kernel
theorem dX5_aim_12 : decode cX5_aim 12 = .ok (.getfield 22, 3) := by decide +kernel
theorem dX5_aim_15 : decode cX5_aim 15 = .ok (.aload_n 0, 1) := by decide +kernel
theorem dX5_aim_16 : decode cX5_aim 16 = .ok (.getfield 10, 3) := by decide +kernel
theorem dX5_aim_19 : decode cX5_aim 19 = .ok (.invokevirtual 41, 3) := by decide +kernel
theorem dX5_aim_22 : decode cX5_aim 22 = .ok (.aload_n 0, 1) := by decide +kernel
theorem dX5_aim_23 : decode cX5_aim 23 = .ok (.getfield 10, 3) := by decide +kernel
theorem dX5_aim_26 : decode cX5_aim 26 = .ok (.getfield 45, 3) := by decide +kernel
theorem dX5_aim_29 : decode cX5_aim 29 = .ok (.getfield 58, 3) := by decide +kernel
theorem dX5_aim_32 : decode cX5_aim 32 = .ok (.iload_n 1, 1) := by decide +kernel
theorem dX5_aim_33 : decode cX5_aim 33 = .ok (.iaload, 1) := by decide +kernel
theorem dX5_aim_34 : decode cX5_aim 34 = .ok (.istore_n 3, 1) := by decide +kernel
theorem dX5_aim_35 : decode cX5_aim 35 = .ok (.aload_n 0, 1) := by decide +kernel
theorem dX5_aim_36 : decode cX5_aim 36 = .ok (.getfield 10, 3) := by decide +kernel
theorem dX5_aim_39 : decode cX5_aim 39 = .ok (.getfield 45, 3) := by decide +kernel
theorem dX5_aim_42 : decode cX5_aim 42 = .ok (.getfield 58, 3) := by decide +kernel
theorem dX5_aim_45 : decode cX5_aim 45 = .ok (.iload_n 1, 1) := by decide +kernel
theorem dX5_aim_46 : decode cX5_aim 46 = .ok (.iload_n 2, 1) := by decide +kernel
theorem dX5_aim_47 : decode cX5_aim 47 = .ok (.iastore, 1) := by decide +kernel
theorem dX5_aim_48 : decode cX5_aim 48 = .ok (.iload_n 3, 1) := by decide +kernel
theorem dX5_aim_49 : decode cX5_aim 49 = .ok (.ireturn, 1) := by decide +kernel
set_option maxRecDepth 20000 in
theorem ggX5_pump_X5_needPump : GoodIn wsX5_pump wsX5_needPump := goodIn_ca (goodIn_r _ [8, 9, 10] (by decide +kernel) (by decide +kernel)) (goodIn_sub (fun _ h => List.mem_cons_of_mem _ (List.mem_append_left _ (List.mem_append_right _ h))) (by decide +kernel))
set_option maxRecDepth 20000 in
theorem gX5_pump_X5_needPump : GoodIn wsX5_pump (va_wsS RX5 61 yX5_needPump wsX5_needPump) := goodIn_app (goodIn_of _ (by decide +kernel)) ggX5_pump_X5_needPump
set_option maxRecDepth 20000 in
theorem ggX5_pump_X5_needWithin : GoodIn wsX5_pump wsX5_needWithin := goodIn_ca (goodIn_r _ [13, 14, 15] (by decide +kernel) (by decide +kernel)) (goodIn_sub (fun _ h => List.mem_cons_of_mem _ (List.mem_append_right _ h)) (by decide +kernel))
set_option maxRecDepth 20000 in
theorem gX5_pump_X5_needWithin : GoodIn wsX5_pump (va_wsS RX5 37 yX5_needWithin wsX5_needWithin) := goodIn_app (goodIn_of _ (by decide +kernel)) ggX5_pump_X5_needWithin
set_option maxRecDepth 20000 in
theorem ggX5_pump_X3_keep : GoodIn wsX5_pump wsX3_keep := goodIn_r _ [20, 21, 22, 23, 24, 25, 19, 26, 27, 28, 29, 30, 31, 32, 33, 34, 35, 36, 37, 38, 39, 40, 41, 42, 43, 44, 45, 46, 47, 48, 49, 50, 51, 52, 53, 7, 54, 55, 56, 57, 58, 59, 60, 61, 62, 63, 64, 65, 87, 88, 70, 71, 72, 73, 74, 75, 76, 77, 78, 79, 80, 81, 82, 83, 84, 85, 86, 89, 90, 91, 92, 93, 94] (by decide +kernel) (by decide +kernel)
set_option maxRecDepth 20000 in
theorem gX5_pump_X3_keep : GoodIn wsX5_pump (wsV RX5 41 RX3 yX3_keep wsX3_keep) := goodIn_app (goodIn_of _ (by decide +kernel)) ggX5_pump_X3_keep
theorem dX5_pump_0 : decode cX5_pump 0 = .ok (.iload_n 1, 1) := by decide +kernel
theorem dX5_pump_1 : decode cX5_pump 1 = .ok (.invokestatic 61, 3) := by decide +kernel
theorem dX5_pump_4 : decode cX5_pump 4 = .ok (.iload_n 2, 1) := by decide +kernel
theorem dX5_pump_5 : decode cX5_pump 5 = .ok (.iconst 0, 1) := by decide +kernel
theorem dX5_pump_6 : decode cX5_pump 6 = .ok (.sipush 2000, 3) := by decide +kernel
theorem dX5_pump_9 : decode cX5_pump 9 = .ok (.invokestatic 37, 3) := by decide +kernel
theorem dX5_pump_12 : decode cX5_pump 12 = .ok (.aload_n 0, 1) := by decide +kernel
theorem dX5_pump_13 : decode cX5_pump 13 = .ok (.getfield 22, 3) := by decide +kernel
theorem dX5_pump_16 : decode cX5_pump 16 = .ok (.aload_n 0, 1) := by decide +kernel
theorem dX5_pump_17 : decode cX5_pump 17 = .ok (.getfield 10, 3) := by decide +kernel
theorem dX5_pump_20 : decode cX5_pump 20 = .ok (.invokevirtual 41, 3) := by decide +kernel
theorem dX5_pump_23 : decode cX5_pump 23 = .ok (.aload_n 0, 1) := by decide +kernel
theorem dX5_pump_24 : decode cX5_pump 24 = .ok (.getfield 10, 3) := by decide +kernel
theorem dX5_pump_27 : decode cX5_pump 27 = .ok (.getfield 45, 3) := by decide +kernel
theorem dX5_pump_30 : decode cX5_pump 30 = .ok (.getfield 64, 3) := by decide +kernel
theorem dX5_pump_33 : decode cX5_pump 33 = .ok (.iload_n 1, 1) := by decide +kernel
theorem dX5_pump_34 : decode cX5_pump 34 = .ok (.iaload, 1) := by decide +kernel
theorem dX5_pump_35 : decode cX5_pump 35 = .ok (.istore_n 3, 1) := by decide +kernel
theorem dX5_pump_36 : decode cX5_pump 36 = .ok (.aload_n 0, 1) := by decide +kernel
theorem dX5_pump_37 : decode cX5_pump 37 = .ok (.getfield 10, 3) := by decide +kernel
theorem dX5_pump_40 : decode cX5_pump 40 = .ok (.getfield 45, 3) := by decide +kernel
theorem dX5_pump_43 : decode cX5_pump 43 = .ok (.getfield 64, 3) := by decide +kernel
theorem dX5_pump_46 : decode cX5_pump 46 = .ok (.iload_n 1, 1) := by decide +kernel
theorem dX5_pump_47 : decode cX5_pump 47 = .ok (.iload_n 2, 1) := by decide +kernel
theorem dX5_pump_48 : decode cX5_pump 48 = .ok (.iastore, 1) := by decide +kernel
theorem dX5_pump_49 : decode cX5_pump 49 = .ok (.iload_n 3, 1) := by decide +kernel
theorem dX5_pump_50 : decode cX5_pump 50 = .ok (.ireturn, 1) := by decide +kernel
set_option maxRecDepth 20000 in
theorem ggX5_wind_X5_needWithin : GoodIn wsX5_wind wsX5_needWithin := goodIn_ca (goodIn_r _ [8, 9, 10] (by decide +kernel) (by decide +kernel)) (goodIn_sub (fun _ h => List.mem_cons_of_mem _ (List.mem_append_right _ h)) (by decide +kernel))
set_option maxRecDepth 20000 in
theorem gX5_wind_X5_needWithin : GoodIn wsX5_wind (va_wsS RX5 37 yX5_needWithin wsX5_needWithin) := goodIn_app (goodIn_of _ (by decide +kernel)) ggX5_wind_X5_needWithin
set_option maxRecDepth 20000 in
theorem ggX5_wind_X3_keep : GoodIn wsX5_wind wsX3_keep := goodIn_r _ [15, 16, 17, 18, 19, 20, 14, 21, 22, 23, 24, 25, 26, 27, 28, 29, 30, 31, 32, 33, 34, 35, 36, 37, 38, 39, 40, 41, 42, 43, 44, 45, 46, 47, 48, 7, 49, 50, 51, 52, 53, 54, 55, 56, 57, 58, 59, 60, 82, 83, 65, 66, 67, 68, 69, 70, 71, 72, 73, 74, 75, 76, 77, 78, 79, 80, 81, 84, 85, 86, 87, 88, 89] (by decide +kernel) (by decide +kernel)
set_option maxRecDepth 20000 in
theorem gX5_wind_X3_keep : GoodIn wsX5_wind (wsV RX5 41 RX3 yX3_keep wsX3_keep) := goodIn_app (goodIn_of _ (by decide +kernel)) ggX5_wind_X3_keep
theorem dX5_wind_0 : decode cX5_wind 0 = .ok (.iload_n 1, 1) := by decide +kernel
theorem dX5_wind_1 : decode cX5_wind 1 = .ok (.iconst 0, 1) := by decide +kernel
theorem dX5_wind_2 : decode cX5_wind 2 = .ok (.bipush 20, 2) := by decide +kernel
theorem dX5_wind_4 : decode cX5_wind 4 = .ok (.invokestatic 37, 3) := by decide +kernel
theorem dX5_wind_7 : decode cX5_wind 7 = .ok (.aload_n 0, 1) := by decide +kernel
theorem dX5_wind_8 : decode cX5_wind 8 = .ok (.getfield 22, 3) := by decide +kernel
theorem dX5_wind_11 : decode cX5_wind 11 = .ok (.aload_n 0, 1) := by decide +kernel
theorem dX5_wind_12 : decode cX5_wind 12 = .ok (.getfield 10, 3) := by decide +kernel
theorem dX5_wind_15 : decode cX5_wind 15 = .ok (.invokevirtual 41, 3) := by decide +kernel
theorem dX5_wind_18 : decode cX5_wind 18 = .ok (.aload_n 0, 1) := by decide +kernel
theorem dX5_wind_19 : decode cX5_wind 19 = .ok (.getfield 10, 3) := by decide +kernel
theorem dX5_wind_22 : decode cX5_wind 22 = .ok (.getfield 45, 3) := by decide +kernel
theorem dX5_wind_25 : decode cX5_wind 25 = .ok (.getfield 67, 3) := by decide +kernel
theorem dX5_wind_28 : decode cX5_wind 28 = .ok (.istore_n 2, 1) := by decide +kernel
theorem dX5_wind_29 : decode cX5_wind 29 = .ok (.aload_n 0, 1) := by decide +kernel
theorem dX5_wind_30 : decode cX5_wind 30 = .ok (.getfield 10, 3) := by decide +kernel
theorem dX5_wind_33 : decode cX5_wind 33 = .ok (.getfield 45, 3) := by decide +kernel
theorem dX5_wind_36 : decode cX5_wind 36 = .ok (.iload_n 1, 1) := by decide +kernel
theorem dX5_wind_37 : decode cX5_wind 37 = .ok (.putfield 67, 3) := by decide +kernel
theorem dX5_wind_40 : decode cX5_wind 40 = .ok (.iload_n 2, 1) := by decide +kernel
theorem dX5_wind_41 : decode cX5_wind 41 = .ok (.ireturn, 1) := by decide +kernel
set_option maxRecDepth 20000 in
theorem ggX5_fill_X5_needWithin : GoodIn wsX5_fill wsX5_needWithin := goodIn_ca (goodIn_r _ [10, 11, 12] (by decide +kernel) (by decide +kernel)) (goodIn_sub (fun _ h => List.mem_cons_of_mem _ (List.mem_append_right _ h)) (by decide +kernel))
set_option maxRecDepth 20000 in
theorem gX5_fill_X5_needWithin : GoodIn wsX5_fill (va_wsS RX5 37 yX5_needWithin wsX5_needWithin) := goodIn_app (goodIn_of _ (by decide +kernel)) ggX5_fill_X5_needWithin
set_option maxRecDepth 20000 in
theorem ggX5_fill_X3_keep : GoodIn wsX5_fill wsX3_keep := goodIn_r _ [17, 18, 19, 20, 21, 22, 16, 23, 24, 25, 26, 27, 28, 29, 30, 31, 32, 33, 34, 35, 36, 37, 38, 39, 40, 41, 42, 43, 44, 45, 46, 47, 48, 49, 50, 9, 51, 52, 53, 54, 55, 56, 57, 58, 59, 60, 61, 62, 77, 78, 67, 68, 69, 70, 71, 72, 73, 74, 75, 76, 79, 80, 81, 82, 83, 84, 85, 86, 87, 88, 89, 90, 91] (by decide +kernel) (by decide +kernel)
set_option maxRecDepth 20000 in
theorem gX5_fill_X3_keep : GoodIn wsX5_fill (wsV RX5 41 RX3 yX3_keep wsX3_keep) := goodIn_app (goodIn_of _ (by decide +kernel)) ggX5_fill_X3_keep
theorem dX5_fill_0 : decode cX5_fill 0 = .ok (.iload_n 1, 1) := by decide +kernel
theorem dX5_fill_1 : decode cX5_fill 1 = .ok (.iconst 1, 1) := by decide +kernel
theorem dX5_fill_2 : decode cX5_fill 2 = .ok (.sipush 9999, 3) := by decide +kernel
theorem dX5_fill_5 : decode cX5_fill 5 = .ok (.invokestatic 37, 3) := by decide +kernel
theorem dX5_fill_8 : decode cX5_fill 8 = .ok (.aload_n 0, 1) := by decide +kernel
theorem dX5_fill_9 : decode cX5_fill 9 = .ok (.getfield 10, 3) := by decide +kernel
theorem dX5_fill_12 : decode cX5_fill 12 = .ok (.getfield 71, 3) := by decide +kernel
theorem dX5_fill_15 : decode cX5_fill 15 = .ok (.iload_n 1, 1) := by decide +kernel
theorem dX5_fill_16 : decode cX5_fill 16 = .ok (.iadd, 1) := by decide +kernel
theorem dX5_fill_17 : decode cX5_fill 17 = .ok (.ldc 74, 2) := by decide +kernel
theorem dX5_fill_19 : decode cX5_fill 19 = .ok (.if_icmp .le 13, 3) := by decide +kernel
theorem dX5_fill_22 : decode cX5_fill 22 = .ok (.new 75, 3) := by decide +kernel
theorem dX5_fill_25 : decode cX5_fill 25 = .ok (.dup, 1) := by decide +kernel
theorem dX5_fill_26 : decode cX5_fill 26 = .ok (.ldc 77, 2) := by decide +kernel
theorem dX5_fill_28 : decode cX5_fill 28 = .ok (.invokespecial 79, 3) := by decide +kernel
theorem dX5_fill_31 : decode cX5_fill 31 = .ok (.athrow, 1) := by decide +kernel
theorem dX5_fill_32 : decode cX5_fill 32 = .ok (.aload_n 0, 1) := by decide +kernel
theorem dX5_fill_33 : decode cX5_fill 33 = .ok (.getfield 22, 3) := by decide +kernel
theorem dX5_fill_36 : decode cX5_fill 36 = .ok (.aload_n 0, 1) := by decide +kernel
theorem dX5_fill_37 : decode cX5_fill 37 = .ok (.getfield 10, 3) := by decide +kernel
theorem dX5_fill_40 : decode cX5_fill 40 = .ok (.invokevirtual 41, 3) := by decide +kernel
theorem dX5_fill_43 : decode cX5_fill 43 = .ok (.aload_n 0, 1) := by decide +kernel
theorem dX5_fill_44 : decode cX5_fill 44 = .ok (.getfield 10, 3) := by decide +kernel
theorem dX5_fill_47 : decode cX5_fill 47 = .ok (.dup, 1) := by decide +kernel
theorem dX5_fill_48 : decode cX5_fill 48 = .ok (.getfield 71, 3) := by decide +kernel
theorem dX5_fill_51 : decode cX5_fill 51 = .ok (.iload_n 1, 1) := by decide +kernel
theorem dX5_fill_52 : decode cX5_fill 52 = .ok (.iadd, 1) := by decide +kernel
theorem dX5_fill_53 : decode cX5_fill 53 = .ok (.putfield 71, 3) := by decide +kernel
theorem dX5_fill_56 : decode cX5_fill 56 = .ok (.aload_n 0, 1) := by decide +kernel
theorem dX5_fill_57 : decode cX5_fill 57 = .ok (.getfield 10, 3) := by decide +kernel
theorem dX5_fill_60 : decode cX5_fill 60 = .ok (.getfield 71, 3) := by decide +kernel
theorem dX5_fill_63 : decode cX5_fill 63 = .ok (.ireturn, 1) := by decide +kernel
set_option maxRecDepth 20000 in
theorem ggX5_set_X5_needSetting : GoodIn wsX5_set wsX5_needSetting := goodIn_ca (goodIn_r _ [10, 11, 12] (by decide +kernel) (by decide +kernel)) (goodIn_sub (fun _ h => List.mem_cons_of_mem _ (List.mem_append_left _ (List.mem_append_right _ h))) (by decide +kernel))
set_option maxRecDepth 20000 in
theorem gX5_set_X5_needSetting : GoodIn wsX5_set (va_wsS RX5 82 yX5_needSetting wsX5_needSetting) := goodIn_app (goodIn_of _ (by decide +kernel)) ggX5_set_X5_needSetting
set_option maxRecDepth 20000 in
theorem ggX5_set_X5_needWithin : GoodIn wsX5_set wsX5_needWithin := goodIn_ca (goodIn_r _ [15, 16, 17] (by decide +kernel) (by decide +kernel)) (goodIn_sub (fun _ h => List.mem_cons_of_mem _ (List.mem_append_right _ h)) (by decide +kernel))
set_option maxRecDepth 20000 in
theorem gX5_set_X5_needWithin : GoodIn wsX5_set (va_wsS RX5 37 yX5_needWithin wsX5_needWithin) := goodIn_app (goodIn_of _ (by decide +kernel)) ggX5_set_X5_needWithin
set_option maxRecDepth 20000 in
theorem ggX5_set_X3_keep : GoodIn wsX5_set wsX3_keep := goodIn_r _ [22, 23, 24, 25, 26, 27, 21, 28, 29, 30, 31, 32, 33, 34, 35, 36, 37, 38, 39, 40, 41, 42, 43, 44, 45, 46, 47, 48, 49, 50, 51, 52, 53, 54, 55, 9, 56, 57, 58, 59, 60, 61, 62, 63, 64, 65, 66, 67, 89, 90, 72, 73, 74, 75, 76, 77, 78, 79, 80, 81, 82, 83, 84, 85, 86, 87, 88, 91, 92, 93, 94, 95, 96] (by decide +kernel) (by decide +kernel)
set_option maxRecDepth 20000 in
theorem gX5_set_X3_keep : GoodIn wsX5_set (wsV RX5 41 RX3 yX3_keep wsX3_keep) := goodIn_app (goodIn_of _ (by decide +kernel)) ggX5_set_X3_keep
theorem dX5_set_0 : decode cX5_set 0 = .ok (.iload_n 1, 1) := by decide +kernel
theorem dX5_set_1 : decode cX5_set 1 = .ok (.invokestatic 82, 3) := by decide +kernel
theorem dX5_set_4 : decode cX5_set 4 = .ok (.iload_n 2, 1) := by decide +kernel
theorem dX5_set_5 : decode cX5_set 5 = .ok (.getstatic 85, 3) := by decide +kernel
theorem dX5_set_8 : decode cX5_set 8 = .ok (.iload_n 1, 1) := by decide +kernel
theorem dX5_set_9 : decode cX5_set 9 = .ok (.iaload, 1) := by decide +kernel
theorem dX5_set_10 : decode cX5_set 10 = .ok (.getstatic 88, 3) := by decide +kernel
theorem dX5_set_13 : decode cX5_set 13 = .ok (.iload_n 1, 1) := by decide +kernel
theorem dX5_set_14 : decode cX5_set 14 = .ok (.iaload, 1) := by decide +kernel
theorem dX5_set_15 : decode cX5_set 15 = .ok (.invokestatic 37, 3) := by decide +kernel
theorem dX5_set_18 : decode cX5_set 18 = .ok (.aload_n 0, 1) := by decide +kernel
theorem dX5_set_19 : decode cX5_set 19 = .ok (.getfield 22, 3) := by decide +kernel
theorem dX5_set_22 : decode cX5_set 22 = .ok (.aload_n 0, 1) := by decide +kernel
theorem dX5_set_23 : decode cX5_set 23 = .ok (.getfield 10, 3) := by decide +kernel
theorem dX5_set_26 : decode cX5_set 26 = .ok (.invokevirtual 41, 3) := by decide +kernel
theorem dX5_set_29 : decode cX5_set 29 = .ok (.aload_n 0, 1) := by decide +kernel
theorem dX5_set_30 : decode cX5_set 30 = .ok (.getfield 10, 3) := by decide +kernel
theorem dX5_set_33 : decode cX5_set 33 = .ok (.getfield 45, 3) := by decide +kernel
theorem dX5_set_36 : decode cX5_set 36 = .ok (.getfield 91, 3) := by decide +kernel
theorem dX5_set_39 : decode cX5_set 39 = .ok (.iload_n 1, 1) := by decide +kernel
theorem dX5_set_40 : decode cX5_set 40 = .ok (.iaload, 1) := by decide +kernel
theorem dX5_set_41 : decode cX5_set 41 = .ok (.istore_n 3, 1) := by decide +kernel
theorem dX5_set_42 : decode cX5_set 42 = .ok (.aload_n 0, 1) := by decide +kernel
theorem dX5_set_43 : decode cX5_set 43 = .ok (.getfield 10, 3) := by decide +kernel
theorem dX5_set_46 : decode cX5_set 46 = .ok (.getfield 45, 3) := by decide +kernel
theorem dX5_set_49 : decode cX5_set 49 = .ok (.getfield 91, 3) := by decide +kernel
theorem dX5_set_52 : decode cX5_set 52 = .ok (.iload_n 1, 1) := by decide +kernel
theorem dX5_set_53 : decode cX5_set 53 = .ok (.iload_n 2, 1) := by decide +kernel
theorem dX5_set_54 : decode cX5_set 54 = .ok (.iastore, 1) := by decide +kernel
theorem dX5_set_55 : decode cX5_set 55 = .ok (.iload_n 3, 1) := by decide +kernel
theorem dX5_set_56 : decode cX5_set 56 = .ok (.ireturn, 1) := by decide +kernel
set_option maxRecDepth 20000 in
theorem ggX5_cue_X5_needCue : GoodIn wsX5_cue wsX5_needCue := goodIn_ca (goodIn_ca (goodIn_r _ [9, 10, 11, 8, 12, 13, 14, 15, 16, 17, 18, 19] (by decide +kernel) (by decide +kernel)) (goodIn_sub (fun _ h => List.mem_cons_of_mem _ (List.mem_append_left _ (List.mem_append_right _ h))) (by decide +kernel))) (goodIn_sub (fun _ h => List.mem_cons_of_mem _ (List.mem_append_right _ h)) (by decide +kernel))
set_option maxRecDepth 20000 in
theorem gX5_cue_X5_needCue : GoodIn wsX5_cue (va_wsS RX5 94 yX5_needCue wsX5_needCue) := goodIn_app (goodIn_of _ (by decide +kernel)) ggX5_cue_X5_needCue
set_option maxRecDepth 20000 in
theorem ggX5_cue_X4_reasonAgainst : GoodIn wsX5_cue wsX4_reasonAgainst := goodIn_r _ [24, 25, 26, 27, 28, 29, 30, 31, 32, 33, 34, 35, 36, 37, 38, 39, 40, 41, 23, 42, 43, 44, 45, 46, 47, 48, 49, 50, 51, 106, 107, 108, 109, 110, 111, 112, 113, 114, 115, 116, 117, 118, 119, 120, 121, 122, 123, 124, 125, 126, 127, 128] (by decide +kernel) (by decide +kernel)
set_option maxRecDepth 20000 in
theorem gX5_cue_X4_reasonAgainst : GoodIn wsX5_cue (wsV RX5 97 RX4 yX4_reasonAgainst wsX4_reasonAgainst) := goodIn_app (goodIn_of _ (by decide +kernel)) ggX5_cue_X4_reasonAgainst
set_option maxRecDepth 20000 in
theorem ggX5_cue_X3_keep : GoodIn wsX5_cue wsX3_keep := goodIn_r _ [56, 57, 58, 59, 60, 61, 55, 62, 63, 64, 65, 23, 66, 43, 26, 67, 68, 25, 69, 70, 71, 72, 73, 74, 75, 76, 77, 78, 79, 80, 81, 82, 83, 84, 85, 8, 86, 87, 88, 89, 30, 90, 91, 37, 38, 51, 32, 92, 129, 130, 106, 107, 108, 109, 110, 111, 112, 113, 114, 115, 122, 123, 124, 125, 126, 127, 128, 116, 117, 118, 119, 120, 121] (by decide +kernel) (by decide +kernel)
set_option maxRecDepth 20000 in
theorem gX5_cue_X3_keep : GoodIn wsX5_cue (wsV RX5 41 RX3 yX3_keep wsX3_keep) := goodIn_app (goodIn_of _ (by decide +kernel)) ggX5_cue_X3_keep
set_option maxRecDepth 20000 in
theorem ggX5_cue_X1_add : GoodIn wsX5_cue wsX1_add := goodIn_r _ [96, 32, 37, 92, 91, 38, 51, 97, 28, 29, 30, 31, 98, 99, 100, 101, 116, 117, 118, 119, 120, 121] (by decide +kernel) (by decide +kernel)
set_option maxRecDepth 20000 in
theorem gX5_cue_X1_add : GoodIn wsX5_cue (wsV RX5 107 RX1 yX1_add wsX1_add) := goodIn_app (goodIn_of _ (by decide +kernel)) ggX5_cue_X1_add
theorem dX5_cue_0 : decode cX5_cue 0 = .ok (.iload_n 1, 1) := by decide +kernel
theorem dX5_cue_1 : decode cX5_cue 1 = .ok (.iload_n 2, 1) := by decide +kernel
theorem dX5_cue_2 : decode cX5_cue 2 = .ok (.iload_n 3, 1) := by decide +kernel
theorem dX5_cue_3 : decode cX5_cue 3 = .ok (.invokestatic 94, 3) := by decide +kernel
theorem dX5_cue_6 : decode cX5_cue 6 = .ok (.aload_n 0, 1) := by decide +kernel
theorem dX5_cue_7 : decode cX5_cue 7 = .ok (.getfield 10, 3) := by decide +kernel
theorem dX5_cue_10 : decode cX5_cue 10 = .ok (.iload_n 1, 1) := by decide +kernel
theorem dX5_cue_11 : decode cX5_cue 11 = .ok (.iload_n 2, 1) := by decide +kernel
theorem dX5_cue_12 : decode cX5_cue 12 = .ok (.iload_n 3, 1) := by decide +kernel
theorem dX5_cue_13 : decode cX5_cue 13 = .ok (.invokevirtual 97, 3) := by decide +kernel
theorem dX5_cue_16 : decode cX5_cue 16 = .ok (.ifCond .eq 13, 3) := by decide +kernel
theorem dX5_cue_19 : decode cX5_cue 19 = .ok (.new 75, 3) := by decide +kernel
theorem dX5_cue_22 : decode cX5_cue 22 = .ok (.dup, 1) := by decide +kernel
theorem dX5_cue_23 : decode cX5_cue 23 = .ok (.ldc 101, 2) := by decide +kernel
theorem dX5_cue_25 : decode cX5_cue 25 = .ok (.invokespecial 79, 3) := by decide +kernel
theorem dX5_cue_28 : decode cX5_cue 28 = .ok (.athrow, 1) := by decide +kernel
theorem dX5_cue_29 : decode cX5_cue 29 = .ok (.aload_n 0, 1) := by decide +kernel
theorem dX5_cue_30 : decode cX5_cue 30 = .ok (.getfield 22, 3) := by decide +kernel
theorem dX5_cue_33 : decode cX5_cue 33 = .ok (.aload_n 0, 1) := by decide +kernel
theorem dX5_cue_34 : decode cX5_cue 34 = .ok (.getfield 10, 3) := by decide +kernel
theorem dX5_cue_37 : decode cX5_cue 37 = .ok (.invokevirtual 41, 3) := by decide +kernel
theorem dX5_cue_40 : decode cX5_cue 40 = .ok (.aload_n 0, 1) := by decide +kernel
theorem dX5_cue_41 : decode cX5_cue 41 = .ok (.getfield 10, 3) := by decide +kernel
theorem dX5_cue_44 : decode cX5_cue 44 = .ok (.getfield 103, 3) := by decide +kernel
theorem dX5_cue_47 : decode cX5_cue 47 = .ok (.iload_n 1, 1) := by decide +kernel
theorem dX5_cue_48 : decode cX5_cue 48 = .ok (.iload_n 2, 1) := by decide +kernel
theorem dX5_cue_49 : decode cX5_cue 49 = .ok (.iload_n 3, 1) := by decide +kernel
theorem dX5_cue_50 : decode cX5_cue 50 = .ok (.invokevirtual 107, 3) := by decide +kernel
theorem dX5_cue_53 : decode cX5_cue 53 = .ok (.ireturn, 1) := by decide +kernel
set_option maxRecDepth 20000 in
theorem ggX5_drop_X1_placeOf : GoodIn wsX5_drop wsX1_placeOf := goodIn_r _ [11, 12, 13, 84, 85, 86, 87, 88, 89] (by decide +kernel) (by decide +kernel)
set_option maxRecDepth 20000 in
theorem gX5_drop_X1_placeOf : GoodIn wsX5_drop (wsV RX5 112 RX1 yX1_placeOf wsX1_placeOf) := goodIn_app (goodIn_of _ (by decide +kernel)) ggX5_drop_X1_placeOf
set_option maxRecDepth 20000 in
theorem ggX5_drop_X3_keep : GoodIn wsX5_drop wsX3_keep := goodIn_r _ [18, 19, 20, 21, 22, 23, 17, 24, 25, 26, 27, 28, 29, 30, 31, 32, 33, 34, 35, 36, 37, 38, 39, 40, 41, 42, 43, 44, 45, 46, 47, 48, 49, 50, 51, 52, 53, 54, 55, 56, 10, 57, 13, 58, 59, 60, 12, 61, 90, 91, 74, 75, 76, 77, 78, 79, 80, 81, 82, 83, 92, 93, 94, 95, 96, 97, 98, 84, 85, 86, 87, 88, 89] (by decide +kernel) (by decide +kernel)
set_option maxRecDepth 20000 in
theorem gX5_drop_X3_keep : GoodIn wsX5_drop (wsV RX5 41 RX3 yX3_keep wsX3_keep) := goodIn_app (goodIn_of _ (by decide +kernel)) ggX5_drop_X3_keep
set_option maxRecDepth 20000 in
theorem ggX5_drop_X1_removeAt : GoodIn wsX5_drop wsX1_removeAt := goodIn_r _ [65, 12, 66, 67, 68, 10, 69, 13, 58, 59, 60, 84, 85, 86, 87, 88, 89] (by decide +kernel) (by decide +kernel)
set_option maxRecDepth 20000 in
theorem gX5_drop_X1_removeAt : GoodIn wsX5_drop (wsV RX5 121 RX1 yX1_removeAt wsX1_removeAt) := goodIn_app (goodIn_of _ (by decide +kernel)) ggX5_drop_X1_removeAt
theorem dX5_drop_0 : decode cX5_drop 0 = .ok (.aload_n 0, 1) := by decide +kernel
theorem dX5_drop_1 : decode cX5_drop 1 = .ok (.getfield 10, 3) := by decide +kernel
theorem dX5_drop_4 : decode cX5_drop 4 = .ok (.getfield 103, 3) := by decide +kernel
theorem dX5_drop_7 : decode cX5_drop 7 = .ok (.iload_n 1, 1) := by decide +kernel
theorem dX5_drop_8 : decode cX5_drop 8 = .ok (.invokevirtual 112, 3) := by decide +kernel
theorem dX5_drop_11 : decode cX5_drop 11 = .ok (.istore_n 2, 1) := by decide +kernel
theorem dX5_drop_12 : decode cX5_drop 12 = .ok (.iload_n 2, 1) := by decide +kernel
theorem dX5_drop_13 : decode cX5_drop 13 = .ok (.iconst (-1), 1) := by decide +kernel
theorem dX5_drop_14 : decode cX5_drop 14 = .ok (.if_icmp .ne 13, 3) := by decide +kernel
theorem dX5_drop_17 : decode cX5_drop 17 = .ok (.new 116, 3) := by decide +kernel
theorem dX5_drop_20 : decode cX5_drop 20 = .ok (.dup, 1) := by decide +kernel
theorem dX5_drop_21 : decode cX5_drop 21 = .ok (.ldc 118, 2) := by decide +kernel
theorem dX5_drop_23 : decode cX5_drop 23 = .ok (.invokespecial 120, 3) := by decide +kernel
theorem dX5_drop_26 : decode cX5_drop 26 = .ok (.athrow, 1) := by decide +kernel
theorem dX5_drop_27 : decode cX5_drop 27 = .ok (.aload_n 0, 1) := by decide +kernel
theorem dX5_drop_28 : decode cX5_drop 28 = .ok (.getfield 22, 3) := by decide +kernel
theorem dX5_drop_31 : decode cX5_drop 31 = .ok (.aload_n 0, 1) := by decide +kernel
theorem dX5_drop_32 : decode cX5_drop 32 = .ok (.getfield 10, 3) := by decide +kernel
theorem dX5_drop_35 : decode cX5_drop 35 = .ok (.invokevirtual 41, 3) := by decide +kernel
theorem dX5_drop_38 : decode cX5_drop 38 = .ok (.aload_n 0, 1) := by decide +kernel
theorem dX5_drop_39 : decode cX5_drop 39 = .ok (.getfield 10, 3) := by decide +kernel
theorem dX5_drop_42 : decode cX5_drop 42 = .ok (.getfield 103, 3) := by decide +kernel
theorem dX5_drop_45 : decode cX5_drop 45 = .ok (.iload_n 2, 1) := by decide +kernel
theorem dX5_drop_46 : decode cX5_drop 46 = .ok (.invokevirtual 121, 3) := by decide +kernel
theorem dX5_drop_49 : decode cX5_drop 49 = .ok (.aload_n 0, 1) := by decide +kernel
theorem dX5_drop_50 : decode cX5_drop 50 = .ok (.getfield 10, 3) := by decide +kernel
theorem dX5_drop_53 : decode cX5_drop 53 = .ok (.getfield 103, 3) := by decide +kernel
theorem dX5_drop_56 : decode cX5_drop 56 = .ok (.getfield 124, 3) := by decide +kernel
theorem dX5_drop_59 : decode cX5_drop 59 = .ok (.ireturn, 1) := by decide +kernel
set_option maxRecDepth 20000 in
theorem ggX5_play_X5_needWithin : GoodIn wsX5_play wsX5_needWithin := goodIn_ca (goodIn_r _ [7, 8, 9] (by decide +kernel) (by decide +kernel)) (goodIn_sub (fun _ h => List.mem_cons_of_mem _ (List.mem_append_right _ h)) (by decide +kernel))
set_option maxRecDepth 20000 in
theorem gX5_play_X5_needWithin : GoodIn wsX5_play (va_wsS RX5 37 yX5_needWithin wsX5_needWithin) := goodIn_app (goodIn_of _ (by decide +kernel)) ggX5_play_X5_needWithin
set_option maxRecDepth 20000 in
theorem ggX5_play_X3_keep : GoodIn wsX5_play wsX3_keep := goodIn_r _ [14, 15, 16, 17, 18, 19, 13, 20, 21, 22, 23, 24, 25, 26, 27, 28, 29, 30, 31, 32, 33, 34, 35, 36, 37, 38, 39, 40, 41, 42, 43, 44, 45, 46, 47, 6, 48, 49, 50, 51, 52, 53, 54, 55, 56, 57, 58, 59, 142, 143, 132, 133, 134, 135, 136, 137, 138, 139, 140, 141, 144, 145, 146, 147, 148, 149, 150, 151, 152, 153, 154, 155, 156] (by decide +kernel) (by decide +kernel)
set_option maxRecDepth 20000 in
theorem gX5_play_X3_keep : GoodIn wsX5_play (wsV RX5 41 RX3 yX3_keep wsX3_keep) := goodIn_app (goodIn_of _ (by decide +kernel)) ggX5_play_X3_keep
set_option maxRecDepth 20000 in
theorem ggX5_play_X4_playTicks : GoodIn wsX5_play wsX4_playTicks := goodIn_r _ [63, 26, 30, 64, 65, 66, 24, 67, 27, 68, 69, 70, 71, 72, 33, 73, 74, 75, 52, 76, 58, 77, 78, 79, 80, 54, 55, 56, 57, 81, 82, 83, 38, 84, 45, 43, 42, 85, 86, 87, 88, 89, 90, 91, 92, 93, 94, 95, 29, 32, 31, 96, 34, 97, 28, 98, 99, 100, 101, 102, 103, 104, 105, 106, 107, 108, 109, 40, 110, 111, 112, 113, 44, 114, 6, 115, 116, 117, 118, 119, 46, 120, 121, 122, 123, 124, 125, 126, 127, 132, 133, 134, 135, 136, 137, 138, 139, 140, 141, 151, 152, 153, 154, 155, 156, 144, 145, 146, 147, 148, 149, 150] (by decide +kernel) (by decide +kernel)
set_option maxRecDepth 20000 in
theorem gX5_play_X4_playTicks : GoodIn wsX5_play (wsV RX5 130 RX4 yX4_playTicks wsX4_playTicks) := goodIn_app (goodIn_of _ (by decide +kernel)) ggX5_play_X4_playTicks
theorem dX5_play_0 : decode cX5_play 0 = .ok (.iload_n 1, 1) := by decide +kernel
theorem dX5_play_1 : decode cX5_play 1 = .ok (.iconst 1, 1) := by decide +kernel
theorem dX5_play_2 : decode cX5_play 2 = .ok (.bipush 100, 2) := by decide +kernel
theorem dX5_play_4 : decode cX5_play 4 = .ok (.invokestatic 37, 3) := by decide +kernel
theorem dX5_play_7 : decode cX5_play 7 = .ok (.aload_n 0, 1) := by decide +kernel
theorem dX5_play_8 : decode cX5_play 8 = .ok (.getfield 22, 3) := by decide +kernel
theorem dX5_play_11 : decode cX5_play 11 = .ok (.aload_n 0, 1) := by decide +kernel
theorem dX5_play_12 : decode cX5_play 12 = .ok (.getfield 10, 3) := by decide +kernel
theorem dX5_play_15 : decode cX5_play 15 = .ok (.invokevirtual 41, 3) := by decide +kernel
theorem dX5_play_18 : decode cX5_play 18 = .ok (.aload_n 0, 1) := by decide +kernel
theorem dX5_play_19 : decode cX5_play 19 = .ok (.getfield 10, 3) := by decide +kernel
theorem dX5_play_22 : decode cX5_play 22 = .ok (.getfield 127, 3) := by decide +kernel
theorem dX5_play_25 : decode cX5_play 25 = .ok (.istore_n 2, 1) := by decide +kernel
theorem dX5_play_26 : decode cX5_play 26 = .ok (.aload_n 0, 1) := by decide +kernel
theorem dX5_play_27 : decode cX5_play 27 = .ok (.getfield 10, 3) := by decide +kernel
theorem dX5_play_30 : decode cX5_play 30 = .ok (.iload_n 1, 1) := by decide +kernel
theorem dX5_play_31 : decode cX5_play 31 = .ok (.invokevirtual 130, 3) := by decide +kernel
theorem dX5_play_34 : decode cX5_play 34 = .ok (.aload_n 0, 1) := by decide +kernel
theorem dX5_play_35 : decode cX5_play 35 = .ok (.getfield 10, 3) := by decide +kernel
theorem dX5_play_38 : decode cX5_play 38 = .ok (.getfield 127, 3) := by decide +kernel
theorem dX5_play_41 : decode cX5_play 41 = .ok (.iload_n 2, 1) := by decide +kernel
theorem dX5_play_42 : decode cX5_play 42 = .ok (.isub, 1) := by decide +kernel
theorem dX5_play_43 : decode cX5_play 43 = .ok (.ireturn, 1) := by decide +kernel
set_option maxRecDepth 20000 in
theorem ggX5_undo_X3_restore : GoodIn wsX5_undo wsX3_restore := goodIn_r _ [10, 11, 12, 13, 14, 15, 16, 17, 18, 19, 20, 21, 22, 23, 24, 25, 26, 27, 28, 29, 30, 31, 32, 33, 34, 35, 36, 37, 38, 39, 40, 41, 42, 43, 44, 45, 46, 47, 48, 49, 50, 51, 52, 57, 58, 59, 60, 61, 62, 63, 64, 65, 66, 67, 68, 69, 70, 71, 72, 73, 74, 75, 76, 77, 78, 79, 80, 81] (by decide +kernel) (by decide +kernel)
set_option maxRecDepth 20000 in
theorem gX5_undo_X3_restore : GoodIn wsX5_undo (wsV RX5 161 RX3 yX3_restore wsX3_restore) := goodIn_app (goodIn_of _ (by decide +kernel)) ggX5_undo_X3_restore
theorem dX5_undo_0 : decode cX5_undo 0 = .ok (.aload_n 0, 1) := by decide +kernel
theorem dX5_undo_1 : decode cX5_undo 1 = .ok (.getfield 22, 3) := by decide +kernel
theorem dX5_undo_4 : decode cX5_undo 4 = .ok (.getfield 158, 3) := by decide +kernel
theorem dX5_undo_7 : decode cX5_undo 7 = .ok (.ifCond .ne 13, 3) := by decide +kernel
theorem dX5_undo_10 : decode cX5_undo 10 = .ok (.new 75, 3) := by decide +kernel
theorem dX5_undo_13 : decode cX5_undo 13 = .ok (.dup, 1) := by decide +kernel
theorem dX5_undo_14 : decode cX5_undo 14 = .ok (.ldc 159, 2) := by decide +kernel
theorem dX5_undo_16 : decode cX5_undo 16 = .ok (.invokespecial 79, 3) := by decide +kernel
theorem dX5_undo_19 : decode cX5_undo 19 = .ok (.athrow, 1) := by decide +kernel
theorem dX5_undo_20 : decode cX5_undo 20 = .ok (.aload_n 0, 1) := by decide +kernel
theorem dX5_undo_21 : decode cX5_undo 21 = .ok (.getfield 22, 3) := by decide +kernel
theorem dX5_undo_24 : decode cX5_undo 24 = .ok (.aload_n 0, 1) := by decide +kernel
theorem dX5_undo_25 : decode cX5_undo 25 = .ok (.getfield 10, 3) := by decide +kernel
theorem dX5_undo_28 : decode cX5_undo 28 = .ok (.invokevirtual 161, 3) := by decide +kernel
theorem dX5_undo_31 : decode cX5_undo 31 = .ok (.aload_n 0, 1) := by decide +kernel
theorem dX5_undo_32 : decode cX5_undo 32 = .ok (.getfield 22, 3) := by decide +kernel
theorem dX5_undo_35 : decode cX5_undo 35 = .ok (.getfield 158, 3) := by decide +kernel
theorem dX5_undo_38 : decode cX5_undo 38 = .ok (.ireturn, 1) := by decide +kernel
set_option maxRecDepth 20000 in
theorem ggX5_jetOf_X5_needJet : GoodIn wsX5_jetOf wsX5_needJet := goodIn_ca (goodIn_r _ [5, 6, 7] (by decide +kernel) (by decide +kernel)) (goodIn_sub (fun _ h => List.mem_cons_of_mem _ (List.mem_append_left _ (List.mem_append_right _ h))) (by decide +kernel))
set_option maxRecDepth 20000 in
theorem gX5_jetOf_X5_needJet : GoodIn wsX5_jetOf (va_wsS RX5 33 yX5_needJet wsX5_needJet) := goodIn_app (goodIn_of _ (by decide +kernel)) ggX5_jetOf_X5_needJet
set_option maxRecDepth 20000 in
theorem ggX5_jetOf_X5_needWithin : GoodIn wsX5_jetOf wsX5_needWithin := goodIn_ca (goodIn_r _ [10, 11, 12] (by decide +kernel) (by decide +kernel)) (goodIn_sub (fun _ h => List.mem_cons_of_mem _ (List.mem_append_right _ h)) (by decide +kernel))
set_option maxRecDepth 20000 in
theorem gX5_jetOf_X5_needWithin : GoodIn wsX5_jetOf (va_wsS RX5 37 yX5_needWithin wsX5_needWithin) := goodIn_app (goodIn_of _ (by decide +kernel)) ggX5_jetOf_X5_needWithin
set_option maxRecDepth 20000 in
theorem ggX5_jetOf_X4_numberOfJet : GoodIn wsX5_jetOf wsX4_numberOfJet := goodIn_r _ [17, 18, 19, 20, 21, 22, 23, 24, 25, 26, 27, 28, 29, 30, 31, 32, 33, 34, 35, 36, 37, 38, 39, 40, 41, 42, 43, 44, 45, 46, 47, 48, 49, 4, 50, 51, 52, 53, 54, 55, 56, 57, 58, 59, 60, 61, 62, 63, 68, 69, 70, 71, 72, 73, 74, 75, 76, 77, 78, 79, 80, 81, 82, 83, 84] (by decide +kernel) (by decide +kernel)
set_option maxRecDepth 20000 in
theorem gX5_jetOf_X4_numberOfJet : GoodIn wsX5_jetOf (wsV RX5 164 RX4 yX4_numberOfJet wsX4_numberOfJet) := goodIn_app (goodIn_of _ (by decide +kernel)) ggX5_jetOf_X4_numberOfJet
theorem dX5_jetOf_0 : decode cX5_jetOf 0 = .ok (.iload_n 1, 1) := by decide +kernel
theorem dX5_jetOf_1 : decode cX5_jetOf 1 = .ok (.invokestatic 33, 3) := by decide +kernel
theorem dX5_jetOf_4 : decode cX5_jetOf 4 = .ok (.iload_n 2, 1) := by decide +kernel
theorem dX5_jetOf_5 : decode cX5_jetOf 5 = .ok (.iconst 0, 1) := by decide +kernel
theorem dX5_jetOf_6 : decode cX5_jetOf 6 = .ok (.bipush 7, 2) := by decide +kernel
theorem dX5_jetOf_8 : decode cX5_jetOf 8 = .ok (.invokestatic 37, 3) := by decide +kernel
theorem dX5_jetOf_11 : decode cX5_jetOf 11 = .ok (.aload_n 0, 1) := by decide +kernel
theorem dX5_jetOf_12 : decode cX5_jetOf 12 = .ok (.getfield 10, 3) := by decide +kernel
theorem dX5_jetOf_15 : decode cX5_jetOf 15 = .ok (.iload_n 1, 1) := by decide +kernel
theorem dX5_jetOf_16 : decode cX5_jetOf 16 = .ok (.iload_n 2, 1) := by decide +kernel
theorem dX5_jetOf_17 : decode cX5_jetOf 17 = .ok (.invokevirtual 164, 3) := by decide +kernel
theorem dX5_jetOf_20 : decode cX5_jetOf 20 = .ok (.ireturn, 1) := by decide +kernel
set_option maxRecDepth 20000 in
theorem ggX5_pumpOf_X5_needPump : GoodIn wsX5_pumpOf wsX5_needPump := goodIn_ca (goodIn_r _ [7, 8, 9] (by decide +kernel) (by decide +kernel)) (goodIn_sub (fun _ h => List.mem_cons_of_mem _ (List.mem_append_left _ (List.mem_append_right _ h))) (by decide +kernel))
set_option maxRecDepth 20000 in
theorem gX5_pumpOf_X5_needPump : GoodIn wsX5_pumpOf (va_wsS RX5 61 yX5_needPump wsX5_needPump) := goodIn_app (goodIn_of _ (by decide +kernel)) ggX5_pumpOf_X5_needPump
set_option maxRecDepth 20000 in
theorem ggX5_pumpOf_X5_needWithin : GoodIn wsX5_pumpOf wsX5_needWithin := goodIn_ca (goodIn_r _ [12, 13, 14] (by decide +kernel) (by decide +kernel)) (goodIn_sub (fun _ h => List.mem_cons_of_mem _ (List.mem_append_right _ h)) (by decide +kernel))
set_option maxRecDepth 20000 in
theorem gX5_pumpOf_X5_needWithin : GoodIn wsX5_pumpOf (va_wsS RX5 37 yX5_needWithin wsX5_needWithin) := goodIn_app (goodIn_of _ (by decide +kernel)) ggX5_pumpOf_X5_needWithin
set_option maxRecDepth 20000 in
theorem ggX5_pumpOf_X2_pumpAsks : GoodIn wsX5_pumpOf wsX2_pumpAsks := goodIn_r _ [19, 20, 21, 22, 18, 23, 24, 25, 65, 66, 67, 68, 69, 70, 71] (by decide +kernel) (by decide +kernel)
set_option maxRecDepth 20000 in
theorem gX5_pumpOf_X2_pumpAsks : GoodIn wsX5_pumpOf (wsV RX5 168 RX2 yX2_pumpAsks wsX2_pumpAsks) := goodIn_app (goodIn_of _ (by decide +kernel)) ggX5_pumpOf_X2_pumpAsks
set_option maxRecDepth 20000 in
theorem ggX5_pumpOf_X2_pumpGives : GoodIn wsX5_pumpOf wsX2_pumpGives := goodIn_r _ [29, 30, 16, 17, 18, 19, 20, 21, 22, 23, 24, 25, 31, 32, 33, 34, 35, 36, 37, 38, 39, 40, 6, 41, 42, 43, 44, 45, 46, 47, 48, 49, 50, 65, 66, 67, 68, 69, 70, 71] (by decide +kernel) (by decide +kernel)
set_option maxRecDepth 20000 in
theorem gX5_pumpOf_X2_pumpGives : GoodIn wsX5_pumpOf (wsV RX5 171 RX2 yX2_pumpGives wsX2_pumpGives) := goodIn_app (goodIn_of _ (by decide +kernel)) ggX5_pumpOf_X2_pumpGives
theorem dX5_pumpOf_0 : decode cX5_pumpOf 0 = .ok (.iload_n 1, 1) := by decide +kernel
theorem dX5_pumpOf_1 : decode cX5_pumpOf 1 = .ok (.invokestatic 61, 3) := by decide +kernel
theorem dX5_pumpOf_4 : decode cX5_pumpOf 4 = .ok (.iload_n 2, 1) := by decide +kernel
theorem dX5_pumpOf_5 : decode cX5_pumpOf 5 = .ok (.iconst 0, 1) := by decide +kernel
theorem dX5_pumpOf_6 : decode cX5_pumpOf 6 = .ok (.iconst 2, 1) := by decide +kernel
theorem dX5_pumpOf_7 : decode cX5_pumpOf 7 = .ok (.invokestatic 37, 3) := by decide +kernel
theorem dX5_pumpOf_10 : decode cX5_pumpOf 10 = .ok (.iload_n 2, 1) := by decide +kernel
theorem dX5_pumpOf_11 : decode cX5_pumpOf 11 = .ok (.lookupswitch 50 #[(0, 25), (1, 38)], 25) := by decide +kernel
theorem dX5_pumpOf_36 : decode cX5_pumpOf 36 = .ok (.aload_n 0, 1) := by decide +kernel
theorem dX5_pumpOf_37 : decode cX5_pumpOf 37 = .ok (.getfield 10, 3) := by decide +kernel
theorem dX5_pumpOf_40 : decode cX5_pumpOf 40 = .ok (.getfield 45, 3) := by decide +kernel
theorem dX5_pumpOf_43 : decode cX5_pumpOf 43 = .ok (.getfield 64, 3) := by decide +kernel
theorem dX5_pumpOf_46 : decode cX5_pumpOf 46 = .ok (.iload_n 1, 1) := by decide +kernel
theorem dX5_pumpOf_47 : decode cX5_pumpOf 47 = .ok (.iaload, 1) := by decide +kernel
theorem dX5_pumpOf_48 : decode cX5_pumpOf 48 = .ok (.ireturn, 1) := by decide +kernel
theorem dX5_pumpOf_49 : decode cX5_pumpOf 49 = .ok (.aload_n 0, 1) := by decide +kernel
theorem dX5_pumpOf_50 : decode cX5_pumpOf 50 = .ok (.getfield 10, 3) := by decide +kernel
theorem dX5_pumpOf_53 : decode cX5_pumpOf 53 = .ok (.getfield 45, 3) := by decide +kernel
theorem dX5_pumpOf_56 : decode cX5_pumpOf 56 = .ok (.iload_n 1, 1) := by decide +kernel
theorem dX5_pumpOf_57 : decode cX5_pumpOf 57 = .ok (.invokevirtual 168, 3) := by decide +kernel
theorem dX5_pumpOf_60 : decode cX5_pumpOf 60 = .ok (.ireturn, 1) := by decide +kernel
theorem dX5_pumpOf_61 : decode cX5_pumpOf 61 = .ok (.aload_n 0, 1) := by decide +kernel
theorem dX5_pumpOf_62 : decode cX5_pumpOf 62 = .ok (.getfield 10, 3) := by decide +kernel
theorem dX5_pumpOf_65 : decode cX5_pumpOf 65 = .ok (.getfield 45, 3) := by decide +kernel
theorem dX5_pumpOf_68 : decode cX5_pumpOf 68 = .ok (.iload_n 1, 1) := by decide +kernel
theorem dX5_pumpOf_69 : decode cX5_pumpOf 69 = .ok (.invokevirtual 171, 3) := by decide +kernel
theorem dX5_pumpOf_72 : decode cX5_pumpOf 72 = .ok (.ireturn, 1) := by decide +kernel
set_option maxRecDepth 20000 in
theorem ggX5_cueOf_X5_needWithin : GoodIn wsX5_cueOf wsX5_needWithin := goodIn_ca (goodIn_r _ [8, 1, 2] (by decide +kernel) (by decide +kernel)) (goodIn_sub (fun _ h => List.mem_cons_of_mem _ (List.mem_append_right _ h)) (by decide +kernel))
set_option maxRecDepth 20000 in
theorem gX5_cueOf_X5_needWithin : GoodIn wsX5_cueOf (va_wsS RX5 37 yX5_needWithin wsX5_needWithin) := goodIn_app (goodIn_of _ (by decide +kernel)) ggX5_cueOf_X5_needWithin
set_option maxRecDepth 20000 in
theorem ggX5_cueOf_X1_numberAt : GoodIn wsX5_cueOf wsX1_numberAt := goodIn_r _ [13, 14, 15, 16, 17, 18, 33, 34, 35, 36, 37, 38] (by decide +kernel) (by decide +kernel)
set_option maxRecDepth 20000 in
theorem gX5_cueOf_X1_numberAt : GoodIn wsX5_cueOf (wsV RX5 176 RX1 yX1_numberAt wsX1_numberAt) := goodIn_app (goodIn_of _ (by decide +kernel)) ggX5_cueOf_X1_numberAt
theorem dX5_cueOf_0 : decode cX5_cueOf 0 = .ok (.iload_n 1, 1) := by decide +kernel
theorem dX5_cueOf_1 : decode cX5_cueOf 1 = .ok (.ifCond .ge 13, 3) := by decide +kernel
theorem dX5_cueOf_4 : decode cX5_cueOf 4 = .ok (.new 149, 3) := by decide +kernel
theorem dX5_cueOf_7 : decode cX5_cueOf 7 = .ok (.dup, 1) := by decide +kernel
theorem dX5_cueOf_8 : decode cX5_cueOf 8 = .ok (.ldc 174, 2) := by decide +kernel
theorem dX5_cueOf_10 : decode cX5_cueOf 10 = .ok (.invokespecial 153, 3) := by decide +kernel
theorem dX5_cueOf_13 : decode cX5_cueOf 13 = .ok (.athrow, 1) := by decide +kernel
theorem dX5_cueOf_14 : decode cX5_cueOf 14 = .ok (.iload_n 2, 1) := by decide +kernel
theorem dX5_cueOf_15 : decode cX5_cueOf 15 = .ok (.iconst 0, 1) := by decide +kernel
theorem dX5_cueOf_16 : decode cX5_cueOf 16 = .ok (.iconst 3, 1) := by decide +kernel
theorem dX5_cueOf_17 : decode cX5_cueOf 17 = .ok (.invokestatic 37, 3) := by decide +kernel
theorem dX5_cueOf_20 : decode cX5_cueOf 20 = .ok (.aload_n 0, 1) := by decide +kernel
theorem dX5_cueOf_21 : decode cX5_cueOf 21 = .ok (.getfield 10, 3) := by decide +kernel
theorem dX5_cueOf_24 : decode cX5_cueOf 24 = .ok (.getfield 103, 3) := by decide +kernel
theorem dX5_cueOf_27 : decode cX5_cueOf 27 = .ok (.iload_n 1, 1) := by decide +kernel
theorem dX5_cueOf_28 : decode cX5_cueOf 28 = .ok (.iload_n 2, 1) := by decide +kernel
theorem dX5_cueOf_29 : decode cX5_cueOf 29 = .ok (.invokevirtual 176, 3) := by decide +kernel
theorem dX5_cueOf_32 : decode cX5_cueOf 32 = .ok (.ireturn, 1) := by decide +kernel
set_option maxRecDepth 20000 in
theorem ggX5_count_X5_needWithin : GoodIn wsX5_count wsX5_needWithin := goodIn_ca (goodIn_r _ [17, 18, 19] (by decide +kernel) (by decide +kernel)) (goodIn_sub (fun _ h => List.mem_cons_of_mem _ (List.mem_append_right _ h)) (by decide +kernel))
set_option maxRecDepth 20000 in
theorem gX5_count_X5_needWithin : GoodIn wsX5_count (va_wsS RX5 37 yX5_needWithin wsX5_needWithin) := goodIn_app (goodIn_of _ (by decide +kernel)) ggX5_count_X5_needWithin
set_option maxRecDepth 20000 in
theorem ggX5_count_X2_lampsThatBurn : GoodIn wsX5_count wsX2_lampsThatBurn := goodIn_r _ [24, 25, 26, 27, 23, 28, 29, 30, 31, 32, 33, 34, 35, 36, 37, 38, 39, 40, 41, 42, 43, 44, 45, 46, 47, 48, 16, 49, 50, 51, 52, 53, 54, 55, 56, 57, 58, 59, 60, 61, 62, 83, 84, 85, 86, 87, 88, 89] (by decide +kernel) (by decide +kernel)
set_option maxRecDepth 20000 in
theorem gX5_count_X2_lampsThatBurn : GoodIn wsX5_count (wsV RX5 185 RX2 yX2_lampsThatBurn wsX2_lampsThatBurn) := goodIn_app (goodIn_of _ (by decide +kernel)) ggX5_count_X2_lampsThatBurn
theorem dX5_count_0 : decode cX5_count 0 = .ok (.iload_n 1, 1) := by decide +kernel
theorem dX5_count_1 : decode cX5_count 1 = .ok (.iconst 0, 1) := by decide +kernel
theorem dX5_count_2 : decode cX5_count 2 = .ok (.bipush 9, 2) := by decide +kernel
theorem dX5_count_4 : decode cX5_count 4 = .ok (.invokestatic 37, 3) := by decide +kernel
theorem dX5_count_7 : decode cX5_count 7 = .ok (.iload_n 1, 1) := by decide +kernel
theorem dX5_count_8 : decode cX5_count 8 = .ok (.tableswitch 133 0 8 #[52, 60, 71, 82, 90, 98, 106, 117, 125], 52) := by decide +kernel
theorem dX5_count_60 : decode cX5_count 60 = .ok (.aload_n 0, 1) := by decide +kernel
theorem dX5_count_61 : decode cX5_count 61 = .ok (.getfield 10, 3) := by decide +kernel
theorem dX5_count_64 : decode cX5_count 64 = .ok (.getfield 179, 3) := by decide +kernel
theorem dX5_count_67 : decode cX5_count 67 = .ok (.ireturn, 1) := by decide +kernel
theorem dX5_count_68 : decode cX5_count 68 = .ok (.aload_n 0, 1) := by decide +kernel
theorem dX5_count_69 : decode cX5_count 69 = .ok (.getfield 10, 3) := by decide +kernel
theorem dX5_count_72 : decode cX5_count 72 = .ok (.getfield 103, 3) := by decide +kernel
theorem dX5_count_75 : decode cX5_count 75 = .ok (.getfield 124, 3) := by decide +kernel
theorem dX5_count_78 : decode cX5_count 78 = .ok (.ireturn, 1) := by decide +kernel
theorem dX5_count_79 : decode cX5_count 79 = .ok (.aload_n 0, 1) := by decide +kernel
theorem dX5_count_80 : decode cX5_count 80 = .ok (.getfield 10, 3) := by decide +kernel
theorem dX5_count_83 : decode cX5_count 83 = .ok (.getfield 45, 3) := by decide +kernel
theorem dX5_count_86 : decode cX5_count 86 = .ok (.getfield 67, 3) := by decide +kernel
theorem dX5_count_89 : decode cX5_count 89 = .ok (.ireturn, 1) := by decide +kernel
theorem dX5_count_90 : decode cX5_count 90 = .ok (.aload_n 0, 1) := by decide +kernel
theorem dX5_count_91 : decode cX5_count 91 = .ok (.getfield 10, 3) := by decide +kernel
theorem dX5_count_94 : decode cX5_count 94 = .ok (.getfield 71, 3) := by decide +kernel
theorem dX5_count_97 : decode cX5_count 97 = .ok (.ireturn, 1) := by decide +kernel
theorem dX5_count_98 : decode cX5_count 98 = .ok (.aload_n 0, 1) := by decide +kernel
theorem dX5_count_99 : decode cX5_count 99 = .ok (.getfield 10, 3) := by decide +kernel
theorem dX5_count_102 : decode cX5_count 102 = .ok (.getfield 127, 3) := by decide +kernel
theorem dX5_count_105 : decode cX5_count 105 = .ok (.ireturn, 1) := by decide +kernel
theorem dX5_count_106 : decode cX5_count 106 = .ok (.aload_n 0, 1) := by decide +kernel
theorem dX5_count_107 : decode cX5_count 107 = .ok (.getfield 10, 3) := by decide +kernel
theorem dX5_count_110 : decode cX5_count 110 = .ok (.getfield 182, 3) := by decide +kernel
theorem dX5_count_113 : decode cX5_count 113 = .ok (.ireturn, 1) := by decide +kernel
theorem dX5_count_114 : decode cX5_count 114 = .ok (.aload_n 0, 1) := by decide +kernel
theorem dX5_count_115 : decode cX5_count 115 = .ok (.getfield 10, 3) := by decide +kernel
theorem dX5_count_118 : decode cX5_count 118 = .ok (.getfield 45, 3) := by decide +kernel
theorem dX5_count_121 : decode cX5_count 121 = .ok (.invokevirtual 185, 3) := by decide +kernel
theorem dX5_count_124 : decode cX5_count 124 = .ok (.ireturn, 1) := by decide +kernel
theorem dX5_count_125 : decode cX5_count 125 = .ok (.aload_n 0, 1) := by decide +kernel
theorem dX5_count_126 : decode cX5_count 126 = .ok (.getfield 10, 3) := by decide +kernel
theorem dX5_count_129 : decode cX5_count 129 = .ok (.getfield 188, 3) := by decide +kernel
theorem dX5_count_132 : decode cX5_count 132 = .ok (.ireturn, 1) := by decide +kernel
theorem dX5_count_133 : decode cX5_count 133 = .ok (.aload_n 0, 1) := by decide +kernel
theorem dX5_count_134 : decode cX5_count 134 = .ok (.getfield 10, 3) := by decide +kernel
theorem dX5_count_137 : decode cX5_count 137 = .ok (.getfield 191, 3) := by decide +kernel
theorem dX5_count_140 : decode cX5_count 140 = .ok (.ireturn, 1) := by decide +kernel
theorem dX5_count_141 : decode cX5_count 141 = .ok (.aload_n 0, 1) := by decide +kernel
theorem dX5_count_142 : decode cX5_count 142 = .ok (.getfield 22, 3) := by decide +kernel
theorem dX5_count_145 : decode cX5_count 145 = .ok (.getfield 158, 3) := by decide +kernel
theorem dX5_count_148 : decode cX5_count 148 = .ok (.ireturn, 1) := by decide +kernel
set_option maxRecDepth 20000 in
theorem ggX5_setting_X5_needSetting : GoodIn wsX5_setting wsX5_needSetting := goodIn_ca (goodIn_r _ [7, 8, 9] (by decide +kernel) (by decide +kernel)) (goodIn_sub (fun _ h => List.mem_cons_of_mem _ (List.mem_append_right _ h)) (by decide +kernel))
set_option maxRecDepth 20000 in
theorem gX5_setting_X5_needSetting : GoodIn wsX5_setting (va_wsS RX5 82 yX5_needSetting wsX5_needSetting) := goodIn_app (goodIn_of _ (by decide +kernel)) ggX5_setting_X5_needSetting
theorem dX5_setting_0 : decode cX5_setting 0 = .ok (.iload_n 1, 1) := by decide +kernel
theorem dX5_setting_1 : decode cX5_setting 1 = .ok (.invokestatic 82, 3) := by decide +kernel
theorem dX5_setting_4 : decode cX5_setting 4 = .ok (.aload_n 0, 1) := by decide +kernel
theorem dX5_setting_5 : decode cX5_setting 5 = .ok (.getfield 10, 3) := by decide +kernel
theorem dX5_setting_8 : decode cX5_setting 8 = .ok (.getfield 45, 3) := by decide +kernel
theorem dX5_setting_11 : decode cX5_setting 11 = .ok (.getfield 91, 3) := by decide +kernel
theorem dX5_setting_14 : decode cX5_setting 14 = .ok (.iload_n 1, 1) := by decide +kernel
theorem dX5_setting_15 : decode cX5_setting 15 = .ok (.iaload, 1) := by decide +kernel
theorem dX5_setting_16 : decode cX5_setting 16 = .ok (.ireturn, 1) := by decide +kernel
set_option maxRecDepth 20000 in
theorem ggX5_refusal_X5_needCue : GoodIn wsX5_refusal wsX5_needCue := goodIn_ca (goodIn_ca (goodIn_r _ [5, 6, 7, 4, 8, 9, 10, 11, 12, 13, 14, 15] (by decide +kernel) (by decide +kernel)) (goodIn_sub (fun _ h => List.mem_cons_of_mem _ (List.mem_append_left _ (List.mem_append_right _ h))) (by decide +kernel))) (goodIn_sub (fun _ h => List.mem_cons_of_mem _ (List.mem_append_right _ h)) (by decide +kernel))
set_option maxRecDepth 20000 in
theorem gX5_refusal_X5_needCue : GoodIn wsX5_refusal (va_wsS RX5 94 yX5_needCue wsX5_needCue) := goodIn_app (goodIn_of _ (by decide +kernel)) ggX5_refusal_X5_needCue
set_option maxRecDepth 20000 in
theorem ggX5_refusal_X4_reasonAgainst : GoodIn wsX5_refusal wsX4_reasonAgainst := goodIn_r _ [20, 21, 22, 23, 24, 25, 26, 27, 28, 29, 30, 31, 32, 33, 34, 35, 36, 37, 19, 38, 39, 40, 41, 42, 43, 44, 45, 46, 47, 52, 53, 54, 55, 56, 57, 58, 59, 60, 61, 62, 63, 64, 65, 66, 67, 68, 69, 70, 71, 72, 73, 74] (by decide +kernel) (by decide +kernel)
set_option maxRecDepth 20000 in
theorem gX5_refusal_X4_reasonAgainst : GoodIn wsX5_refusal (wsV RX5 97 RX4 yX4_reasonAgainst wsX4_reasonAgainst) := goodIn_app (goodIn_of _ (by decide +kernel)) ggX5_refusal_X4_reasonAgainst
theorem dX5_refusal_0 : decode cX5_refusal 0 = .ok (.iload_n 1, 1) := by decide +kernel
theorem dX5_refusal_1 : decode cX5_refusal 1 = .ok (.iload_n 2, 1) := by decide +kernel
theorem dX5_refusal_2 : decode cX5_refusal 2 = .ok (.iload_n 3, 1) := by decide +kernel
theorem dX5_refusal_3 : decode cX5_refusal 3 = .ok (.invokestatic 94, 3) := by decide +kernel
theorem dX5_refusal_6 : decode cX5_refusal 6 = .ok (.aload_n 0, 1) := by decide +kernel
theorem dX5_refusal_7 : decode cX5_refusal 7 = .ok (.getfield 10, 3) := by decide +kernel
theorem dX5_refusal_10 : decode cX5_refusal 10 = .ok (.iload_n 1, 1) := by decide +kernel
theorem dX5_refusal_11 : decode cX5_refusal 11 = .ok (.iload_n 2, 1) := by decide +kernel
theorem dX5_refusal_12 : decode cX5_refusal 12 = .ok (.iload_n 3, 1) := by decide +kernel
theorem dX5_refusal_13 : decode cX5_refusal 13 = .ok (.invokevirtual 97, 3) := by decide +kernel
theorem dX5_refusal_16 : decode cX5_refusal 16 = .ok (.ireturn, 1) := by decide +kernel
set_option maxRecDepth 20000 in
theorem ggX5_ifPlayed_X5_needWithin : GoodIn wsX5_ifPlayed wsX5_needWithin := goodIn_ca (goodIn_r _ [9, 10, 11] (by decide +kernel) (by decide +kernel)) (goodIn_sub (fun _ h => List.mem_cons_of_mem _ (List.mem_append_right _ h)) (by decide +kernel))
set_option maxRecDepth 20000 in
theorem gX5_ifPlayed_X5_needWithin : GoodIn wsX5_ifPlayed (va_wsS RX5 37 yX5_needWithin wsX5_needWithin) := goodIn_app (goodIn_of _ (by decide +kernel)) ggX5_ifPlayed_X5_needWithin
set_option maxRecDepth 20000 in
theorem ggX5_ifPlayed_X4_copyFrom : GoodIn wsX5_ifPlayed wsX4_copyFrom := goodIn_r _ [16, 17, 18, 19, 20, 21, 22, 23, 24, 25, 26, 27, 28, 29, 30, 31, 32, 33, 34, 35, 36, 37, 38, 8, 39, 40, 41, 42, 43, 44, 45, 46, 47, 48, 49, 50, 132, 133, 134, 135, 136, 137, 138, 139, 140, 141, 142, 143, 144, 145, 146, 147, 148, 149, 150, 151, 152, 153, 154] (by decide +kernel) (by decide +kernel)
set_option maxRecDepth 20000 in
theorem gX5_ifPlayed_X4_copyFrom : GoodIn wsX5_ifPlayed (wsV RX5 194 RX4 yX4_copyFrom wsX4_copyFrom) := goodIn_app (goodIn_of _ (by decide +kernel)) ggX5_ifPlayed_X4_copyFrom
set_option maxRecDepth 20000 in
theorem ggX5_ifPlayed_X4_countAnew : GoodIn wsX5_ifPlayed wsX4_countAnew := goodIn_r _ [54, 22, 23, 25, 19, 132, 133, 134, 135, 136, 137, 138, 139, 140, 141] (by decide +kernel) (by decide +kernel)
set_option maxRecDepth 20000 in
theorem gX5_ifPlayed_X4_countAnew : GoodIn wsX5_ifPlayed (wsV RX5 197 RX4 yX4_countAnew wsX4_countAnew) := goodIn_app (goodIn_of _ (by decide +kernel)) ggX5_ifPlayed_X4_countAnew
set_option maxRecDepth 20000 in
theorem ggX5_ifPlayed_X4_playTicks : GoodIn wsX5_ifPlayed wsX4_playTicks := goodIn_r _ [58, 17, 21, 59, 60, 61, 15, 62, 18, 63, 64, 65, 66, 67, 24, 68, 69, 70, 43, 71, 49, 72, 73, 74, 75, 45, 46, 47, 48, 76, 77, 78, 29, 79, 36, 34, 33, 80, 81, 82, 83, 84, 85, 86, 87, 88, 89, 90, 20, 23, 22, 91, 25, 92, 19, 93, 94, 95, 96, 97, 98, 99, 100, 101, 102, 103, 104, 31, 105, 106, 107, 108, 35, 109, 8, 110, 111, 112, 113, 114, 37, 115, 116, 117, 118, 119, 120, 121, 122, 132, 133, 134, 135, 136, 137, 138, 139, 140, 141, 149, 150, 151, 152, 153, 154, 142, 143, 144, 145, 146, 147, 148] (by decide +kernel) (by decide +kernel)
set_option maxRecDepth 20000 in
theorem gX5_ifPlayed_X4_playTicks : GoodIn wsX5_ifPlayed (wsV RX5 130 RX4 yX4_playTicks wsX4_playTicks) := goodIn_app (goodIn_of _ (by decide +kernel)) ggX5_ifPlayed_X4_playTicks
set_option maxRecDepth 20000 in
theorem ggX5_ifPlayed_X4_lampTicksOfColour : GoodIn wsX5_ifPlayed wsX4_lampTicksOfColour := goodIn_r _ [126, 17, 127, 19, 132, 133, 134, 135, 136, 137, 138, 139, 140, 141, 142, 143, 144, 145, 146, 147, 148] (by decide +kernel) (by decide +kernel)
set_option maxRecDepth 20000 in
theorem gX5_ifPlayed_X4_lampTicksOfColour : GoodIn wsX5_ifPlayed (wsV RX5 200 RX4 yX4_lampTicksOfColour wsX4_lampTicksOfColour) := goodIn_app (goodIn_of _ (by decide +kernel)) ggX5_ifPlayed_X4_lampTicksOfColour
theorem dX5_ifPlayed_0 : decode cX5_ifPlayed 0 = .ok (.iload_n 1, 1) := by decide +kernel
theorem dX5_ifPlayed_1 : decode cX5_ifPlayed 1 = .ok (.iconst 1, 1) := by decide +kernel
theorem dX5_ifPlayed_2 : decode cX5_ifPlayed 2 = .ok (.bipush 100, 2) := by decide +kernel
theorem dX5_ifPlayed_4 : decode cX5_ifPlayed 4 = .ok (.invokestatic 37, 3) := by decide +kernel
theorem dX5_ifPlayed_7 : decode cX5_ifPlayed 7 = .ok (.iload_n 2, 1) := by decide +kernel
theorem dX5_ifPlayed_8 : decode cX5_ifPlayed 8 = .ok (.iconst 0, 1) := by decide +kernel
theorem dX5_ifPlayed_9 : decode cX5_ifPlayed 9 = .ok (.iconst 3, 1) := by decide +kernel
theorem dX5_ifPlayed_10 : decode cX5_ifPlayed 10 = .ok (.invokestatic 37, 3) := by decide +kernel
theorem dX5_ifPlayed_13 : decode cX5_ifPlayed 13 = .ok (.aload_n 0, 1) := by decide +kernel
theorem dX5_ifPlayed_14 : decode cX5_ifPlayed 14 = .ok (.getfield 16, 3) := by decide +kernel
theorem dX5_ifPlayed_17 : decode cX5_ifPlayed 17 = .ok (.aload_n 0, 1) := by decide +kernel
theorem dX5_ifPlayed_18 : decode cX5_ifPlayed 18 = .ok (.getfield 10, 3) := by decide +kernel
theorem dX5_ifPlayed_21 : decode cX5_ifPlayed 21 = .ok (.invokevirtual 194, 3) := by decide +kernel
theorem dX5_ifPlayed_24 : decode cX5_ifPlayed 24 = .ok (.aload_n 0, 1) := by decide +kernel
theorem dX5_ifPlayed_25 : decode cX5_ifPlayed 25 = .ok (.getfield 16, 3) := by decide +kernel
theorem dX5_ifPlayed_28 : decode cX5_ifPlayed 28 = .ok (.invokevirtual 197, 3) := by decide +kernel
theorem dX5_ifPlayed_31 : decode cX5_ifPlayed 31 = .ok (.aload_n 0, 1) := by decide +kernel
theorem dX5_ifPlayed_32 : decode cX5_ifPlayed 32 = .ok (.getfield 16, 3) := by decide +kernel
theorem dX5_ifPlayed_35 : decode cX5_ifPlayed 35 = .ok (.iload_n 1, 1) := by decide +kernel
theorem dX5_ifPlayed_36 : decode cX5_ifPlayed 36 = .ok (.invokevirtual 130, 3) := by decide +kernel
theorem dX5_ifPlayed_39 : decode cX5_ifPlayed 39 = .ok (.iload_n 2, 1) := by decide +kernel
theorem dX5_ifPlayed_40 : decode cX5_ifPlayed 40 = .ok (.tableswitch 52 0 2 #[28, 36, 44], 28) := by decide +kernel
theorem dX5_ifPlayed_68 : decode cX5_ifPlayed 68 = .ok (.aload_n 0, 1) := by decide +kernel
theorem dX5_ifPlayed_69 : decode cX5_ifPlayed 69 = .ok (.getfield 16, 3) := by decide +kernel
theorem dX5_ifPlayed_72 : decode cX5_ifPlayed 72 = .ok (.getfield 127, 3) := by decide +kernel
theorem dX5_ifPlayed_75 : decode cX5_ifPlayed 75 = .ok (.ireturn, 1) := by decide +kernel
theorem dX5_ifPlayed_76 : decode cX5_ifPlayed 76 = .ok (.aload_n 0, 1) := by decide +kernel
theorem dX5_ifPlayed_77 : decode cX5_ifPlayed 77 = .ok (.getfield 16, 3) := by decide +kernel
theorem dX5_ifPlayed_80 : decode cX5_ifPlayed 80 = .ok (.getfield 182, 3) := by decide +kernel
theorem dX5_ifPlayed_83 : decode cX5_ifPlayed 83 = .ok (.ireturn, 1) := by decide +kernel
theorem dX5_ifPlayed_84 : decode cX5_ifPlayed 84 = .ok (.aload_n 0, 1) := by decide +kernel
theorem dX5_ifPlayed_85 : decode cX5_ifPlayed 85 = .ok (.getfield 16, 3) := by decide +kernel
theorem dX5_ifPlayed_88 : decode cX5_ifPlayed 88 = .ok (.getfield 191, 3) := by decide +kernel
theorem dX5_ifPlayed_91 : decode cX5_ifPlayed 91 = .ok (.ireturn, 1) := by decide +kernel
theorem dX5_ifPlayed_92 : decode cX5_ifPlayed 92 = .ok (.aload_n 0, 1) := by decide +kernel
theorem dX5_ifPlayed_93 : decode cX5_ifPlayed 93 = .ok (.getfield 16, 3) := by decide +kernel
theorem dX5_ifPlayed_96 : decode cX5_ifPlayed 96 = .ok (.iconst 0, 1) := by decide +kernel
theorem dX5_ifPlayed_97 : decode cX5_ifPlayed 97 = .ok (.invokevirtual 200, 3) := by decide +kernel
theorem dX5_ifPlayed_100 : decode cX5_ifPlayed 100 = .ok (.ireturn, 1) := by decide +kernel
set_option maxRecDepth 20000 in
theorem ggX5_share_X2_pumpAsks : GoodIn wsX5_share wsX2_pumpAsks := goodIn_r _ [7, 8, 9, 10, 6, 11, 12, 13, 54, 55, 56, 57, 58, 59, 60] (by decide +kernel) (by decide +kernel)
set_option maxRecDepth 20000 in
theorem gX5_share_X2_pumpAsks : GoodIn wsX5_share (wsV RX5 168 RX2 yX2_pumpAsks wsX2_pumpAsks) := goodIn_app (goodIn_of _ (by decide +kernel)) ggX5_share_X2_pumpAsks
set_option maxRecDepth 20000 in
theorem ggX5_share_X2_pumpGives : GoodIn wsX5_share wsX2_pumpGives := goodIn_r _ [17, 18, 4, 5, 6, 7, 8, 9, 10, 11, 12, 13, 19, 20, 21, 22, 23, 24, 25, 26, 27, 28, 29, 30, 31, 32, 33, 34, 35, 36, 37, 38, 39, 54, 55, 56, 57, 58, 59, 60] (by decide +kernel) (by decide +kernel)
set_option maxRecDepth 20000 in
theorem gX5_share_X2_pumpGives : GoodIn wsX5_share (wsV RX5 171 RX2 yX2_pumpGives wsX2_pumpGives) := goodIn_app (goodIn_of _ (by decide +kernel)) ggX5_share_X2_pumpGives
theorem dX5_share_0 : decode cX5_share 0 = .ok (.iconst 0, 1) := by decide +kernel
theorem dX5_share_1 : decode cX5_share 1 = .ok (.istore_n 1, 1) := by decide +kernel
theorem dX5_share_2 : decode cX5_share 2 = .ok (.iconst 0, 1) := by decide +kernel
theorem dX5_share_3 : decode cX5_share 3 = .ok (.istore_n 2, 1) := by decide +kernel
theorem dX5_share_4 : decode cX5_share 4 = .ok (.iconst 0, 1) := by decide +kernel
theorem dX5_share_5 : decode cX5_share 5 = .ok (.istore_n 3, 1) := by decide +kernel
theorem dX5_share_6 : decode cX5_share 6 = .ok (.iload_n 3, 1) := by decide +kernel
theorem dX5_share_7 : decode cX5_share 7 = .ok (.iconst 2, 1) := by decide +kernel
theorem dX5_share_8 : decode cX5_share 8 = .ok (.if_icmp .ge 37, 3) := by decide +kernel
theorem dX5_share_11 : decode cX5_share 11 = .ok (.iload_n 1, 1) := by decide +kernel
theorem dX5_share_12 : decode cX5_share 12 = .ok (.aload_n 0, 1) := by decide +kernel
theorem dX5_share_13 : decode cX5_share 13 = .ok (.getfield 10, 3) := by decide +kernel
theorem dX5_share_16 : decode cX5_share 16 = .ok (.getfield 45, 3) := by decide +kernel
theorem dX5_share_19 : decode cX5_share 19 = .ok (.iload_n 3, 1) := by decide +kernel
theorem dX5_share_20 : decode cX5_share 20 = .ok (.invokevirtual 168, 3) := by decide +kernel
theorem dX5_share_23 : decode cX5_share 23 = .ok (.iadd, 1) := by decide +kernel
theorem dX5_share_24 : decode cX5_share 24 = .ok (.istore_n 1, 1) := by decide +kernel
theorem dX5_share_25 : decode cX5_share 25 = .ok (.iload_n 2, 1) := by decide +kernel
theorem dX5_share_26 : decode cX5_share 26 = .ok (.aload_n 0, 1) := by decide +kernel
theorem dX5_share_27 : decode cX5_share 27 = .ok (.getfield 10, 3) := by decide +kernel
theorem dX5_share_30 : decode cX5_share 30 = .ok (.getfield 45, 3) := by decide +kernel
theorem dX5_share_33 : decode cX5_share 33 = .ok (.iload_n 3, 1) := by decide +kernel
theorem dX5_share_34 : decode cX5_share 34 = .ok (.invokevirtual 171, 3) := by decide +kernel
theorem dX5_share_37 : decode cX5_share 37 = .ok (.iadd, 1) := by decide +kernel
theorem dX5_share_38 : decode cX5_share 38 = .ok (.istore_n 2, 1) := by decide +kernel
theorem dX5_share_39 : decode cX5_share 39 = .ok (.iinc 3 1, 3) := by decide +kernel
theorem dX5_share_42 : decode cX5_share 42 = .ok (.goto (-36), 3) := by decide +kernel
theorem dX5_share_45 : decode cX5_share 45 = .ok (.iload_n 1, 1) := by decide +kernel
theorem dX5_share_46 : decode cX5_share 46 = .ok (.ifCond .le 11, 3) := by decide +kernel
theorem dX5_share_49 : decode cX5_share 49 = .ok (.iload_n 2, 1) := by decide +kernel
theorem dX5_share_50 : decode cX5_share 50 = .ok (.i2d, 1) := by decide +kernel
theorem dX5_share_51 : decode cX5_share 51 = .ok (.iload_n 1, 1) := by decide +kernel
theorem dX5_share_52 : decode cX5_share 52 = .ok (.i2d, 1) := by decide +kernel
theorem dX5_share_53 : decode cX5_share 53 = .ok (.ddiv, 1) := by decide +kernel
theorem dX5_share_54 : decode cX5_share 54 = .ok (.goto 4, 3) := by decide +kernel
theorem dX5_share_57 : decode cX5_share 57 = .ok (.dconst 1, 1) := by decide +kernel
theorem dX5_share_58 : decode cX5_share 58 = .ok (.dreturn, 1) := by decide +kernel
theorem dX5_needJet_0 : decode cX5_needJet 0 = .ok (.iload_n 0, 1) := by decide +kernel
theorem dX5_needJet_1 : decode cX5_needJet 1 = .ok (.ifCond .lt 9, 3) := by decide +kernel
theorem dX5_needJet_4 : decode cX5_needJet 4 = .ok (.iload_n 0, 1) := by decide +kernel
theorem dX5_needJet_5 : decode cX5_needJet 5 = .ok (.bipush 8, 2) := by decide +kernel
theorem dX5_needJet_7 : decode cX5_needJet 7 = .ok (.if_icmp .lt 14, 3) := by decide +kernel
theorem dX5_needJet_10 : decode cX5_needJet 10 = .ok (.new 116, 3) := by decide +kernel
theorem dX5_needJet_13 : decode cX5_needJet 13 = .ok (.dup, 1) := by decide +kernel
theorem dX5_needJet_14 : decode cX5_needJet 14 = .ok (.ldc_w 267, 3) := by decide +kernel
theorem dX5_needJet_17 : decode cX5_needJet 17 = .ok (.invokespecial 120, 3) := by decide +kernel
theorem dX5_needJet_20 : decode cX5_needJet 20 = .ok (.athrow, 1) := by decide +kernel
theorem dX5_needJet_21 : decode cX5_needJet 21 = .ok (.return_, 1) := by decide +kernel
theorem dX5_needPump_0 : decode cX5_needPump 0 = .ok (.iload_n 0, 1) := by decide +kernel
theorem dX5_needPump_1 : decode cX5_needPump 1 = .ok (.ifCond .lt 8, 3) := by decide +kernel
theorem dX5_needPump_4 : decode cX5_needPump 4 = .ok (.iload_n 0, 1) := by decide +kernel
theorem dX5_needPump_5 : decode cX5_needPump 5 = .ok (.iconst 2, 1) := by decide +kernel
theorem dX5_needPump_6 : decode cX5_needPump 6 = .ok (.if_icmp .lt 14, 3) := by decide +kernel
theorem dX5_needPump_9 : decode cX5_needPump 9 = .ok (.new 116, 3) := by decide +kernel
theorem dX5_needPump_12 : decode cX5_needPump 12 = .ok (.dup, 1) := by decide +kernel
theorem dX5_needPump_13 : decode cX5_needPump 13 = .ok (.ldc_w 269, 3) := by decide +kernel
theorem dX5_needPump_16 : decode cX5_needPump 16 = .ok (.invokespecial 120, 3) := by decide +kernel
theorem dX5_needPump_19 : decode cX5_needPump 19 = .ok (.athrow, 1) := by decide +kernel
theorem dX5_needPump_20 : decode cX5_needPump 20 = .ok (.return_, 1) := by decide +kernel
theorem dX5_needSetting_0 : decode cX5_needSetting 0 = .ok (.iload_n 0, 1) := by decide +kernel
theorem dX5_needSetting_1 : decode cX5_needSetting 1 = .ok (.ifCond .lt 8, 3) := by decide +kernel
theorem dX5_needSetting_4 : decode cX5_needSetting 4 = .ok (.iload_n 0, 1) := by decide +kernel
theorem dX5_needSetting_5 : decode cX5_needSetting 5 = .ok (.iconst 3, 1) := by decide +kernel
theorem dX5_needSetting_6 : decode cX5_needSetting 6 = .ok (.if_icmp .lt 14, 3) := by decide +kernel
theorem dX5_needSetting_9 : decode cX5_needSetting 9 = .ok (.new 116, 3) := by decide +kernel
theorem dX5_needSetting_12 : decode cX5_needSetting 12 = .ok (.dup, 1) := by decide +kernel
theorem dX5_needSetting_13 : decode cX5_needSetting 13 = .ok (.ldc_w 271, 3) := by decide +kernel
theorem dX5_needSetting_16 : decode cX5_needSetting 16 = .ok (.invokespecial 120, 3) := by decide +kernel
theorem dX5_needSetting_19 : decode cX5_needSetting 19 = .ok (.athrow, 1) := by decide +kernel
theorem dX5_needSetting_20 : decode cX5_needSetting 20 = .ok (.return_, 1) := by decide +kernel
theorem dX5_needWithin_0 : decode cX5_needWithin 0 = .ok (.iload_n 0, 1) := by decide +kernel
theorem dX5_needWithin_1 : decode cX5_needWithin 1 = .ok (.iload_n 1, 1) := by decide +kernel
theorem dX5_needWithin_2 : decode cX5_needWithin 2 = .ok (.if_icmp .lt 8, 3) := by decide +kernel
theorem dX5_needWithin_5 : decode cX5_needWithin 5 = .ok (.iload_n 0, 1) := by decide +kernel
theorem dX5_needWithin_6 : decode cX5_needWithin 6 = .ok (.iload_n 2, 1) := by decide +kernel
theorem dX5_needWithin_7 : decode cX5_needWithin 7 = .ok (.if_icmp .le 14, 3) := by decide +kernel
theorem dX5_needWithin_10 : decode cX5_needWithin 10 = .ok (.new 149, 3) := by decide +kernel
theorem dX5_needWithin_13 : decode cX5_needWithin 13 = .ok (.dup, 1) := by decide +kernel
theorem dX5_needWithin_14 : decode cX5_needWithin 14 = .ok (.ldc_w 273, 3) := by decide +kernel
theorem dX5_needWithin_17 : decode cX5_needWithin 17 = .ok (.invokespecial 153, 3) := by decide +kernel
theorem dX5_needWithin_20 : decode cX5_needWithin 20 = .ok (.athrow, 1) := by decide +kernel
theorem dX5_needWithin_21 : decode cX5_needWithin 21 = .ok (.return_, 1) := by decide +kernel
set_option maxRecDepth 20000 in
theorem ggX5_needCue_X5_needJet : GoodIn wsX5_needCue wsX5_needJet := goodIn_ca (goodIn_r _ [4, 5, 6] (by decide +kernel) (by decide +kernel)) (goodIn_sub (fun _ h => List.mem_cons_of_mem _ (List.mem_append_left _ (List.mem_append_right _ h))) (by decide +kernel))
set_option maxRecDepth 20000 in
theorem gX5_needCue_X5_needJet : GoodIn wsX5_needCue (va_wsS RX5 33 yX5_needJet wsX5_needJet) := goodIn_app (goodIn_of _ (by decide +kernel)) ggX5_needCue_X5_needJet
set_option maxRecDepth 20000 in
theorem ggX5_needCue_X5_needWithin : GoodIn wsX5_needCue wsX5_needWithin := goodIn_ca (goodIn_r _ [9, 10, 11] (by decide +kernel) (by decide +kernel)) (goodIn_sub (fun _ h => List.mem_cons_of_mem _ (List.mem_append_right _ h)) (by decide +kernel))
set_option maxRecDepth 20000 in
theorem gX5_needCue_X5_needWithin : GoodIn wsX5_needCue (va_wsS RX5 37 yX5_needWithin wsX5_needWithin) := goodIn_app (goodIn_of _ (by decide +kernel)) ggX5_needCue_X5_needWithin
theorem dX5_needCue_0 : decode cX5_needCue 0 = .ok (.iload_n 1, 1) := by decide +kernel
theorem dX5_needCue_1 : decode cX5_needCue 1 = .ok (.invokestatic 33, 3) := by decide +kernel
theorem dX5_needCue_4 : decode cX5_needCue 4 = .ok (.iload_n 0, 1) := by decide +kernel
theorem dX5_needCue_5 : decode cX5_needCue 5 = .ok (.iconst 0, 1) := by decide +kernel
theorem dX5_needCue_6 : decode cX5_needCue 6 = .ok (.sipush 999, 3) := by decide +kernel
theorem dX5_needCue_9 : decode cX5_needCue 9 = .ok (.invokestatic 37, 3) := by decide +kernel
theorem dX5_needCue_12 : decode cX5_needCue 12 = .ok (.iload_n 2, 1) := by decide +kernel
theorem dX5_needCue_13 : decode cX5_needCue 13 = .ok (.iconst 0, 1) := by decide +kernel
theorem dX5_needCue_14 : decode cX5_needCue 14 = .ok (.bipush 10, 2) := by decide +kernel
theorem dX5_needCue_16 : decode cX5_needCue 16 = .ok (.invokestatic 37, 3) := by decide +kernel
theorem dX5_needCue_19 : decode cX5_needCue 19 = .ok (.return_, 1) := by decide +kernel
theorem dJ9_max_7cf53_0 : decode cJ9_max_7cf53 0 = .ok (.iload_n 0, 1) := by decide +kernel
theorem dJ9_max_7cf53_1 : decode cJ9_max_7cf53 1 = .ok (.iload_n 1, 1) := by decide +kernel
theorem dJ9_max_7cf53_2 : decode cJ9_max_7cf53 2 = .ok (.if_icmp .lt 7, 3) := by decide +kernel
theorem dJ9_max_7cf53_5 : decode cJ9_max_7cf53 5 = .ok (.iload_n 0, 1) := by decide +kernel
theorem dJ9_max_7cf53_6 : decode cJ9_max_7cf53 6 = .ok (.goto 4, 3) := by decide +kernel
theorem dJ9_max_7cf53_9 : decode cJ9_max_7cf53 9 = .ok (.iload_n 1, 1) := by decide +kernel
theorem dJ9_max_7cf53_10 : decode cJ9_max_7cf53 10 = .ok (.ireturn, 1) := by decide +kernel
theorem dJ9_min_7cf53_0 : decode cJ9_min_7cf53 0 = .ok (.iload_n 0, 1) := by decide +kernel
theorem dJ9_min_7cf53_1 : decode cJ9_min_7cf53 1 = .ok (.iload_n 1, 1) := by decide +kernel
theorem dJ9_min_7cf53_2 : decode cJ9_min_7cf53 2 = .ok (.if_icmp .gt 7, 3) := by decide +kernel
theorem dJ9_min_7cf53_5 : decode cJ9_min_7cf53 5 = .ok (.iload_n 0, 1) := by decide +kernel
theorem dJ9_min_7cf53_6 : decode cJ9_min_7cf53 6 = .ok (.goto 4, 3) := by decide +kernel
theorem dJ9_min_7cf53_9 : decode cJ9_min_7cf53 9 = .ok (.iload_n 1, 1) := by decide +kernel
theorem dJ9_min_7cf53_10 : decode cJ9_min_7cf53 10 = .ok (.ireturn, 1) := by decide +kernel
