set_option maxRecDepth 20000 in
theorem ggX5_init_X4_init : GoodIn wsX5_init wsX4_init := goodIn_r _ [18, 19, 2, 3, 20, 21, 22, 23, 24, 25, 26, 27, 28, 29, 30, 31, 32, 33, 34, 35, 36, 37, 38, 39, 40, 41, 42, 43, 44, 45, 46, 47, 48, 77, 78, 79, 80, 81, 82, 83, 59, 60, 61, 62, 63, 64, 65, 66, 67, 68, 84, 85, 86, 87, 88, 89] (by decide +kernel) (by decide +kernel)
set_option maxRecDepth 20000 in
theorem gX5_init_X4_init_n9 : GoodIn wsX5_init (wsX4_init) := ggX5_init_X4_init
set_option maxRecDepth 20000 in
theorem ggX5_init_X3_init : GoodIn wsX5_init wsX3_init := goodIn_r _ [51, 52, 2, 3, 53, 54, 5, 6, 17, 18, 19, 20, 21, 22, 23, 24, 25, 26, 27, 28, 29, 30, 31, 32, 33, 34, 35, 36, 37, 38, 39, 40, 41, 42, 43, 44, 45, 46, 47, 48, 73, 74, 59, 60, 61, 62, 63, 64, 65, 66, 67, 68, 77, 78, 79, 80, 81, 82, 83, 84, 85, 86, 87, 88, 89] (by decide +kernel) (by decide +kernel)
set_option maxRecDepth 20000 in
theorem gX5_init_X3_init : GoodIn wsX5_init (wsX3_init) := ggX5_init_X3_init
set_option maxRecDepth 20000 in
theorem ggX5_init_X0_init : GoodIn wsX5_init wsX0_init := goodIn_r _ [56, 57, 2, 3, 28, 58, 75, 76] (by decide +kernel) (by decide +kernel)
set_option maxRecDepth 20000 in
theorem gX5_init_X0_init_n28 : GoodIn wsX5_init (wsX0_init) := ggX5_init_X0_init
theorem dX5_init_0 : decode cX5_init 0 = .ok (.aload_n 0, 1) := by decide +kernel
theorem dX5_init_1 : decode cX5_init 1 = .ok (.invokespecial 1, 3) := by decide +kernel
theorem dX5_init_4 : decode cX5_init 4 = .ok (.aload_n 0, 1) := by decide +kernel
theorem dX5_init_5 : decode cX5_init 5 = .ok (.new 7, 3) := by decide +kernel
theorem dX5_init_8 : decode cX5_init 8 = .ok (.dup, 1) := by decide +kernel
theorem dX5_init_9 : decode cX5_init 9 = .ok (.invokespecial 9, 3) := by decide +kernel
theorem dX5_init_12 : decode cX5_init 12 = .ok (.putfield 10, 3) := by decide +kernel
theorem dX5_init_15 : decode cX5_init 15 = .ok (.aload_n 0, 1) := by decide +kernel
theorem dX5_init_16 : decode cX5_init 16 = .ok (.new 7, 3) := by decide +kernel
theorem dX5_init_19 : decode cX5_init 19 = .ok (.dup, 1) := by decide +kernel
theorem dX5_init_20 : decode cX5_init 20 = .ok (.invokespecial 9, 3) := by decide +kernel
theorem dX5_init_23 : decode cX5_init 23 = .ok (.putfield 16, 3) := by decide +kernel
theorem dX5_init_26 : decode cX5_init 26 = .ok (.aload_n 0, 1) := by decide +kernel
theorem dX5_init_27 : decode cX5_init 27 = .ok (.new 19, 3) := by decide +kernel
theorem dX5_init_30 : decode cX5_init 30 = .ok (.dup, 1) := by decide +kernel
theorem dX5_init_31 : decode cX5_init 31 = .ok (.invokespecial 21, 3) := by decide +kernel
theorem dX5_init_34 : decode cX5_init 34 = .ok (.putfield 22, 3) := by decide +kernel
theorem dX5_init_37 : decode cX5_init 37 = .ok (.aload_n 0, 1) := by decide +kernel
theorem dX5_init_38 : decode cX5_init 38 = .ok (.new 26, 3) := by decide +kernel
theorem dX5_init_41 : decode cX5_init 41 = .ok (.dup, 1) := by decide +kernel
theorem dX5_init_42 : decode cX5_init 42 = .ok (.invokespecial 28, 3) := by decide +kernel
theorem dX5_init_45 : decode cX5_init 45 = .ok (.putfield 29, 3) := by decide +kernel
theorem dX5_init_48 : decode cX5_init 48 = .ok (.return_, 1) := by decide +kernel
set_option maxRecDepth 20000 in
theorem ggX5_jet_X5_needJet : GoodIn wsX5_jet wsX5_needJet := goodIn_ca (goodIn_r _ [9, 10, 11] (by decide +kernel) (by decide +kernel)) (goodIn_sub (fun _ h => List.mem_cons_of_mem _ (List.mem_append_left _ (List.mem_append_right _ h))) (by decide +kernel))
set_option maxRecDepth 20000 in
theorem gX5_jet_X5_needJet : GoodIn wsX5_jet (va_wsS RX5 33 yX5_needJet wsX5_needJet) := goodIn_app (goodIn_of _ (by decide +kernel)) ggX5_jet_X5_needJet
set_option maxRecDepth 20000 in
theorem ggX5_jet_X5_needWithin : GoodIn wsX5_jet wsX5_needWithin := goodIn_ca (goodIn_r _ [14, 15, 16] (by decide +kernel) (by decide +kernel)) (goodIn_sub (fun _ h => List.mem_cons_of_mem _ (List.mem_append_right _ h)) (by decide +kernel))
set_option maxRecDepth 20000 in
theorem gX5_jet_X5_needWithin : GoodIn wsX5_jet (va_wsS RX5 37 yX5_needWithin wsX5_needWithin) := goodIn_app (goodIn_of _ (by decide +kernel)) ggX5_jet_X5_needWithin
set_option maxRecDepth 20000 in
theorem ggX5_jet_X3_keep : GoodIn wsX5_jet wsX3_keep := goodIn_r _ [21, 22, 23, 24, 25, 26, 20, 27, 28, 29, 30, 31, 32, 33, 34, 35, 36, 37, 38, 39, 40, 41, 42, 43, 44, 45, 46, 47, 48, 49, 50, 51, 52, 53, 54, 8, 55, 56, 57, 58, 59, 60, 61, 62, 63, 64, 65, 66, 88, 89, 71, 72, 73, 74, 75, 76, 77, 78, 79, 80, 81, 82, 83, 84, 85, 86, 87, 90, 91, 92, 93, 94, 95] (by decide +kernel) (by decide +kernel)
set_option maxRecDepth 20000 in
theorem gX5_jet_X3_keep : GoodIn wsX5_jet (wsV RX5 41 RX3 yX3_keep wsX3_keep) := goodIn_app (goodIn_of _ (by decide +kernel)) ggX5_jet_X3_keep
theorem dX5_jet_0 : decode cX5_jet 0 = .ok (.iload_n 1, 1) := by decide +kernel
theorem dX5_jet_1 : decode cX5_jet 1 = .ok (.invokestatic 33, 3) := by decide +kernel
theorem dX5_jet_4 : decode cX5_jet 4 = .ok (.iload_n 2, 1) := by decide +kernel
theorem dX5_jet_5 : decode cX5_jet 5 = .ok (.iconst 1, 1) := by decide +kernel
theorem dX5_jet_6 : decode cX5_jet 6 = .ok (.bipush 20, 2) := by decide +kernel
theorem dX5_jet_8 : decode cX5_jet 8 = .ok (.invokestatic 37, 3) := by decide +kernel
theorem dX5_jet_11 : decode cX5_jet 11 = .ok (.iload_n 3, 1) := by decide +kernel
theorem dX5_jet_12 : decode cX5_jet 12 = .ok (.iconst 0, 1) := by decide +kernel
theorem dX5_jet_13 : decode cX5_jet 13 = .ok (.iconst 3, 1) := by decide +kernel
theorem dX5_jet_14 : decode cX5_jet 14 = .ok (.invokestatic 37, 3) := by decide +kernel
theorem dX5_jet_17 : decode cX5_jet 17 = .ok (.aload_n 0, 1) := by decide +kernel
theorem dX5_jet_18 : decode cX5_jet 18 = .ok (.getfield 22, 3) := by decide +kernel
theorem dX5_jet_21 : decode cX5_jet 21 = .ok (.aload_n 0, 1) := by decide +kernel
theorem dX5_jet_22 : decode cX5_jet 22 = .ok (.getfield 10, 3) := by decide +kernel
theorem dX5_jet_25 : decode cX5_jet 25 = .ok (.invokevirtual 41, 3) := by decide +kernel
theorem dX5_jet_28 : decode cX5_jet 28 = .ok (.aload_n 0, 1) := by decide +kernel
theorem dX5_jet_29 : decode cX5_jet 29 = .ok (.getfield 10, 3) := by decide +kernel
theorem dX5_jet_32 : decode cX5_jet 32 = .ok (.getfield 45, 3) := by decide +kernel
theorem dX5_jet_35 : decode cX5_jet 35 = .ok (.getfield 49, 3) := by decide +kernel
theorem dX5_jet_38 : decode cX5_jet 38 = .ok (.iload_n 1, 1) := by decide +kernel
theorem dX5_jet_39 : decode cX5_jet 39 = .ok (.iaload, 1) := by decide +kernel
theorem dX5_jet_40 : decode cX5_jet 40 = .ok (.istore 4, 2) := by decide +kernel
theorem dX5_jet_42 : decode cX5_jet 42 = .ok (.aload_n 0, 1) := by decide +kernel
theorem dX5_jet_43 : decode cX5_jet 43 = .ok (.getfield 10, 3) := by decide +kernel
theorem dX5_jet_46 : decode cX5_jet 46 = .ok (.getfield 45, 3) := by decide +kernel
theorem dX5_jet_49 : decode cX5_jet 49 = .ok (.getfield 49, 3) := by decide +kernel
theorem dX5_jet_52 : decode cX5_jet 52 = .ok (.iload_n 1, 1) := by decide +kernel
theorem dX5_jet_53 : decode cX5_jet 53 = .ok (.iload_n 2, 1) := by decide +kernel
theorem dX5_jet_54 : decode cX5_jet 54 = .ok (.iastore, 1) := by decide +kernel
theorem dX5_jet_55 : decode cX5_jet 55 = .ok (.aload_n 0, 1) := by decide +kernel
theorem dX5_jet_56 : decode cX5_jet 56 = .ok (.getfield 10, 3) := by decide +kernel
theorem dX5_jet_59 : decode cX5_jet 59 = .ok (.getfield 45, 3) := by decide +kernel
theorem dX5_jet_62 : decode cX5_jet 62 = .ok (.getfield 55, 3) := by decide +kernel
theorem dX5_jet_65 : decode cX5_jet 65 = .ok (.iload_n 1, 1) := by decide +kernel
theorem dX5_jet_66 : decode cX5_jet 66 = .ok (.iload_n 3, 1) := by decide +kernel
theorem dX5_jet_67 : decode cX5_jet 67 = .ok (.iastore, 1) := by decide +kernel
theorem dX5_jet_68 : decode cX5_jet 68 = .ok (.iload 4, 2) := by decide +kernel
theorem dX5_jet_70 : decode cX5_jet 70 = .ok (.ireturn, 1) := by decide +kernel
set_option maxRecDepth 20000 in
theorem ggX5_aim_X5_needJet : GoodIn wsX5_aim wsX5_needJet := goodIn_ca (goodIn_r _ [8, 9, 10] (by decide +kernel) (by decide +kernel)) (goodIn_sub (fun _ h => List.mem_cons_of_mem _ (List.mem_append_left _ (List.mem_append_right _ h))) (by decide +kernel))
set_option maxRecDepth 20000 in
theorem gX5_aim_X5_needJet : GoodIn wsX5_aim (va_wsS RX5 33 yX5_needJet wsX5_needJet) := goodIn_app (goodIn_of _ (by decide +kernel)) ggX5_aim_X5_needJet
set_option maxRecDepth 20000 in
theorem ggX5_aim_X5_needWithin : GoodIn wsX5_aim wsX5_needWithin := goodIn_ca (goodIn_r _ [13, 14, 15] (by decide +kernel) (by decide +kernel)) (goodIn_sub (fun _ h => List.mem_cons_of_mem _ (List.mem_append_right _ h)) (by decide +kernel))
set_option maxRecDepth 20000 in
theorem gX5_aim_X5_needWithin : GoodIn wsX5_aim (va_wsS RX5 37 yX5_needWithin wsX5_needWithin) := goodIn_app (goodIn_of _ (by decide +kernel)) ggX5_aim_X5_needWithin
set_option maxRecDepth 20000 in
theorem ggX5_aim_X3_keep : GoodIn wsX5_aim wsX3_keep := goodIn_r _ [20, 21, 22, 23, 24, 25, 19, 26, 27, 28, 29, 30, 31, 32, 33, 34, 35, 36, 37, 38, 39, 40, 41, 42, 43, 44, 45, 46, 47, 48, 49, 50, 51, 52, 53, 7, 54, 55, 56, 57, 58, 59, 60, 61, 62, 63, 64, 65, 87, 88, 70, 71, 72, 73, 74, 75, 76, 77, 78, 79, 80, 81, 82, 83, 84, 85, 86, 89, 90, 91, 92, 93, 94] (by decide +kernel) (by decide +kernel)
set_option maxRecDepth 20000 in
theorem gX5_aim_X3_keep : GoodIn wsX5_aim (wsV RX5 41 RX3 yX3_keep wsX3_keep) := goodIn_app (goodIn_of _ (by decide +kernel)) ggX5_aim_X3_keep
theorem dX5_aim_0 : decode cX5_aim 0 = .ok (.iload_n 1, 1) := by decide +kernel
theorem dX5_aim_1 : decode cX5_aim 1 = .ok (.invokestatic 33, 3) := by decide +kernel
theorem dX5_aim_4 : decode cX5_aim 4 = .ok (.iload_n 2, 1) := by decide +kernel
theorem dX5_aim_5 : decode cX5_aim 5 = .ok (.iconst 0, 1) := by decide +kernel
theorem dX5_aim_6 : decode cX5_aim 6 = .ok (.bipush 10, 2) := by decide +kernel
theorem dX5_aim_8 : decode cX5_aim 8 = .ok (.invokestatic 37, 3) := by decide +kernel
theorem dX5_aim_11 : decode cX5_aim 11 = .ok (.aload_n 0, 1) := by decide +kernel
theorem dX5_aim_12 : decode cX5_aim 12 = .ok (.getfield 22, 3) := by decide +kernel
theorem dX5_aim_15 : decode cX5_aim 15 = .ok (.aload_n 0, 1) := by decide +kernel
theorem dX5_aim_16 : decode cX5_aim 16 = .ok (.getfield 10, 3) := by decide +kernel
theorem dX5_aim_19 : decode cX5_aim 19 = .ok (.invokevirtual 41, 3) := by decide +kernel
theorem dX5_aim_22 : decode cX5_aim 22 = .ok (.aload_n 0, 1) := by decide +kernel
theorem dX5_aim_23 : decode cX5_aim 23 = .ok (.getfield 10, 3) := by decide +kernel
theorem dX5_aim_26 : decode cX5_aim 26 = .ok (.getfield 45, 3) := by decide +kernel
theorem dX5_aim_29 : decode cX5_aim 29 = .ok (.getfield 58, 3) := by decide +kernel
theorem dX5_aim_32 : decode cX5_aim 32 = .ok (.iload_n 1, 1) := by decide +kernel
theorem dX5_aim_33 : decode cX5_aim 33 = .ok (.iaload, 1) := by decide +kernel
theorem dX5_aim_34 : decode cX5_aim 34 = .ok (.istore_n 3, 1) := by decide +kernel
theorem dX5_aim_35 : decode cX5_aim 35 = .ok (.aload_n 0, 1) := by decide +kernel
theorem dX5_aim_36 : decode cX5_aim 36 = .ok (.getfield 10, 3) := by decide +kernel
theorem dX5_aim_39 : decode cX5_aim 39 = .ok (.getfield 45, 3) := by decide +kernel
theorem dX5_aim_42 : decode cX5_aim 42 = .ok (.getfield 58, 3) := by decide +kernel
theorem dX5_aim_45 : decode cX5_aim 45 = .ok (.iload_n 1, 1) := by decide +kernel
theorem dX5_aim_46 : decode cX5_aim 46 = .ok (.iload_n 2, 1) := by decide +kernel
theorem dX5_aim_47 : decode cX5_aim 47 = .ok (.iastore, 1) := by decide +kernel
theorem dX5_aim_48 : decode cX5_aim 48 = .ok (.iload_n 3, 1) := by decide +kernel
theorem dX5_aim_49 : decode cX5_aim 49 = .ok (.ireturn, 1) := by decide +kernel
set_option maxRecDepth 20000 in
theorem ggX5_pump_X5_needPump : GoodIn wsX5_pump wsX5_needPump := goodIn_ca (goodIn_r _ [8, 9, 10] (by decide +kernel) (by decide +kernel)) (goodIn_sub (fun _ h => List.mem_cons_of_mem _ (List.mem_append_left _ (List.mem_append_right _ h))) (by decide +kernel))
set_option maxRecDepth 20000 in
theorem gX5_pump_X5_needPump : GoodIn wsX5_pump (va_wsS RX5 61 yX5_needPump wsX5_needPump) := goodIn_app (goodIn_of _ (by decide +kernel)) ggX5_pump_X5_needPump
set_option maxRecDepth 20000 in
theorem ggX5_pump_X5_needWithin : GoodIn wsX5_pump wsX5_needWithin := goodIn_ca (goodIn_r _ [13, 14, 15] (by decide +kernel) (by decide +kernel)) (goodIn_sub (fun _ h => List.mem_cons_of_mem _ (List.mem_append_right _ h)) (by decide +kernel))
set_option maxRecDepth 20000 in
theorem gX5_pump_X5_needWithin : GoodIn wsX5_pump (va_wsS RX5 37 yX5_needWithin wsX5_needWithin) := goodIn_app (goodIn_of _ (by decide +kernel)) ggX5_pump_X5_needWithin
set_option maxRecDepth 20000 in
theorem ggX5_pump_X3_keep : GoodIn wsX5_pump wsX3_keep := goodIn_r _ [20, 21, 22, 23, 24, 25, 19, 26, 27, 28, 29, 30, 31, 32, 33, 34, 35, 36, 37, 38, 39, 40, 41, 42, 43, 44, 45, 46, 47, 48, 49, 50, 51, 52, 53, 7, 54, 55, 56, 57, 58, 59, 60, 61, 62, 63, 64, 65, 87, 88, 70, 71, 72, 73, 74, 75, 76, 77, 78, 79, 80, 81, 82, 83, 84, 85, 86, 89, 90, 91, 92, 93, 94] (by decide +kernel) (by decide +kernel)
set_option maxRecDepth 20000 in
theorem gX5_pump_X3_keep : GoodIn wsX5_pump (wsV RX5 41 RX3 yX3_keep wsX3_keep) := goodIn_app (goodIn_of _ (by decide +kernel)) ggX5_pump_X3_keep
theorem dX5_pump_0 : decode cX5_pump 0 = .ok (.iload_n 1, 1) := by decide +kernel
theorem dX5_pump_1 : decode cX5_pump 1 = .ok (.invokestatic 61, 3) := by decide +kernel
theorem dX5_pump_4 : decode cX5_pump 4 = .ok (.iload_n 2, 1) := by decide +kernel
theorem dX5_pump_5 : decode cX5_pump 5 = .ok (.iconst 0, 1) := by decide +kernel
theorem dX5_pump_6 : decode cX5_pump 6 = .ok (.sipush 2000, 3) := by decide +kernel
theorem dX5_pump_9 : decode cX5_pump 9 = .ok (.invokestatic 37, 3) := by decide +kernel
theorem dX5_pump_12 : decode cX5_pump 12 = .ok (.aload_n 0, 1) := by decide +kernel
theorem dX5_pump_13 : decode cX5_pump 13 = .ok (.getfield 22, 3) := by decide +kernel
theorem dX5_pump_16 : decode cX5_pump 16 = .ok (.aload_n 0, 1) := by decide +kernel
theorem dX5_pump_17 : decode cX5_pump 17 = .ok (.getfield 10, 3) := by decide +kernel
theorem dX5_pump_20 : decode cX5_pump 20 = .ok (.invokevirtual 41, 3) := by decide +kernel
theorem dX5_pump_23 : decode cX5_pump 23 = .ok (.aload_n 0, 1) := by decide +kernel
theorem dX5_pump_24 : decode cX5_pump 24 = .ok (.getfield 10, 3) := by decide +kernel
theorem dX5_pump_27 : decode cX5_pump 27 = .ok (.getfield 45, 3) := by decide +kernel
theorem dX5_pump_30 : decode cX5_pump 30 = .ok (.getfield 64, 3) := by decide +kernel
theorem dX5_pump_33 : decode cX5_pump 33 = .ok (.iload_n 1, 1) := by decide +kernel
theorem dX5_pump_34 : decode cX5_pump 34 = .ok (.iaload, 1) := by decide +kernel
theorem dX5_pump_35 : decode cX5_pump 35 = .ok (.istore_n 3, 1) := by decide +kernel
theorem dX5_pump_36 : decode cX5_pump 36 = .ok (.aload_n 0, 1) := by decide +kernel
theorem dX5_pump_37 : decode cX5_pump 37 = .ok (.getfield 10, 3) := by decide +kernel
theorem dX5_pump_40 : decode cX5_pump 40 = .ok (.getfield 45, 3) := by decide +kernel
theorem dX5_pump_43 : decode cX5_pump 43 = .ok (.getfield 64, 3) := by decide +kernel
theorem dX5_pump_46 : decode cX5_pump 46 = .ok (.iload_n 1, 1) := by decide +kernel
theorem dX5_pump_47 : decode cX5_pump 47 = .ok (.iload_n 2, 1) := by decide +kernel
theorem dX5_pump_48 : decode cX5_pump 48 = .ok (.iastore, 1) := by decide +kernel
theorem dX5_pump_49 : decode cX5_pump 49 = .ok (.iload_n 3, 1) := by decide +kernel
theorem dX5_pump_50 : decode cX5_pump 50 = .ok (.ireturn, 1) := by decide +kernel
set_option maxRecDepth 20000 in
theorem ggX5_wind_X5_needWithin : GoodIn wsX5_wind wsX5_needWithin := goodIn_ca (goodIn_r _ [8, 9, 10] (by decide +kernel) (by decide +kernel)) (goodIn_sub (fun _ h => List.mem_cons_of_mem _ (List.mem_append_right _ h)) (by decide +kernel))
set_option maxRecDepth 20000 in
theorem gX5_wind_X5_needWithin : GoodIn wsX5_wind (va_wsS RX5 37 yX5_needWithin wsX5_needWithin) := goodIn_app (goodIn_of _ (by decide +kernel)) ggX5_wind_X5_needWithin
set_option maxRecDepth 20000 in
theorem ggX5_wind_X3_keep : GoodIn wsX5_wind wsX3_keep := goodIn_r _ [15, 16, 17, 18, 19, 20, 14, 21, 22, 23, 24, 25, 26, 27, 28, 29, 30, 31, 32, 33, 34, 35, 36, 37, 38, 39, 40, 41, 42, 43, 44, 45, 46, 47, 48, 7, 49, 50, 51, 52, 53, 54, 55, 56, 57, 58, 59, 60, 82, 83, 65, 66, 67, 68, 69, 70, 71, 72, 73, 74, 75, 76, 77, 78, 79, 80, 81, 84, 85, 86, 87, 88, 89] (by decide +kernel) (by decide +kernel)
set_option maxRecDepth 20000 in
theorem gX5_wind_X3_keep : GoodIn wsX5_wind (wsV RX5 41 RX3 yX3_keep wsX3_keep) := goodIn_app (goodIn_of _ (by decide +kernel)) ggX5_wind_X3_keep
theorem dX5_wind_0 : decode cX5_wind 0 = .ok (.iload_n 1, 1) := by decide +kernel
theorem dX5_wind_1 : decode cX5_wind 1 = .ok (.iconst 0, 1) := by decide +kernel
theorem dX5_wind_2 : decode cX5_wind 2 = .ok (.bipush 20, 2) := by decide +kernel
theorem dX5_wind_4 : decode cX5_wind 4 = .ok (.invokestatic 37, 3) := by decide +kernel
theorem dX5_wind_7 : decode cX5_wind 7 = .ok (.aload_n 0, 1) := by decide +kernel
theorem dX5_wind_8 : decode cX5_wind 8 = .ok (.getfield 22, 3) := by decide +kernel
theorem dX5_wind_11 : decode cX5_wind 11 = .ok (.aload_n 0, 1) := by decide +kernel
theorem dX5_wind_12 : decode cX5_wind 12 = .ok (.getfield 10, 3) := by decide +kernel
theorem dX5_wind_15 : decode cX5_wind 15 = .ok (.invokevirtual 41, 3) := by decide +kernel
theorem dX5_wind_18 : decode cX5_wind 18 = .ok (.aload_n 0, 1) := by decide +kernel
theorem dX5_wind_19 : decode cX5_wind 19 = .ok (.getfield 10, 3) := by decide +kernel
theorem dX5_wind_22 : decode cX5_wind 22 = .ok (.getfield 45, 3) := by decide +kernel
theorem dX5_wind_25 : decode cX5_wind 25 = .ok (.getfield 67, 3) := by decide +kernel
theorem dX5_wind_28 : decode cX5_wind 28 = .ok (.istore_n 2, 1) := by decide +kernel
theorem dX5_wind_29 : decode cX5_wind 29 = .ok (.aload_n 0, 1) := by decide +kernel
theorem dX5_wind_30 : decode cX5_wind 30 = .ok (.getfield 10, 3) := by decide +kernel
theorem dX5_wind_33 : decode cX5_wind 33 = .ok (.getfield 45, 3) := by decide +kernel
theorem dX5_wind_36 : decode cX5_wind 36 = .ok (.iload_n 1, 1) := by decide +kernel
theorem dX5_wind_37 : decode cX5_wind 37 = .ok (.putfield 67, 3) := by decide +kernel
theorem dX5_wind_40 : decode cX5_wind 40 = .ok (.iload_n 2, 1) := by decide +kernel
theorem dX5_wind_41 : decode cX5_wind 41 = .ok (.ireturn, 1) := by decide +kernel
set_option maxRecDepth 20000 in
theorem ggX5_fill_X5_needWithin : GoodIn wsX5_fill wsX5_needWithin := goodIn_ca (goodIn_r _ [10, 11, 12] (by decide +kernel) (by decide +kernel)) (goodIn_sub (fun _ h => List.mem_cons_of_mem _ (List.mem_append_right _ h)) (by decide +kernel))
set_option maxRecDepth 20000 in
theorem gX5_fill_X5_needWithin : GoodIn wsX5_fill (va_wsS RX5 37 yX5_needWithin wsX5_needWithin) := goodIn_app (goodIn_of _ (by decide +kernel)) ggX5_fill_X5_needWithin
set_option maxRecDepth 20000 in
theorem ggX5_fill_X3_keep : GoodIn wsX5_fill wsX3_keep := goodIn_r _ [17, 18, 19, 20, 21, 22, 16, 23, 24, 25, 26, 27, 28, 29, 30, 31, 32, 33, 34, 35, 36, 37, 38, 39, 40, 41, 42, 43, 44, 45, 46, 47, 48, 49, 50, 9, 51, 52, 53, 54, 55, 56, 57, 58, 59, 60, 61, 62, 77, 78, 67, 68, 69, 70, 71, 72, 73, 74, 75, 76, 79, 80, 81, 82, 83, 84, 85, 86, 87, 88, 89, 90, 91] (by decide +kernel) (by decide +kernel)
set_option maxRecDepth 20000 in
theorem gX5_fill_X3_keep : GoodIn wsX5_fill (wsV RX5 41 RX3 yX3_keep wsX3_keep) := goodIn_app (goodIn_of _ (by decide +kernel)) ggX5_fill_X3_keep
theorem dX5_fill_0 : decode cX5_fill 0 = .ok (.iload_n 1, 1) := by decide +kernel
theorem dX5_fill_1 : decode cX5_fill 1 = .ok (.iconst 1, 1) := by decide +kernel
theorem dX5_fill_2 : decode cX5_fill 2 = .ok (.sipush 9999, 3) := by decide +kernel
theorem dX5_fill_5 : decode cX5_fill 5 = .ok (.invokestatic 37, 3) := by decide +kernel
theorem dX5_fill_8 : decode cX5_fill 8 = .ok (.aload_n 0, 1) := by decide +kernel
theorem dX5_fill_9 : decode cX5_fill 9 = .ok (.getfield 10, 3) := by decide +kernel
theorem dX5_fill_12 : decode cX5_fill 12 = .ok (.getfield 71, 3) := by decide +kernel
theorem dX5_fill_15 : decode cX5_fill 15 = .ok (.iload_n 1, 1) := by decide +kernel
theorem dX5_fill_16 : decode cX5_fill 16 = .ok (.iadd, 1) := by decide +kernel
theorem dX5_fill_17 : decode cX5_fill 17 = .ok (.ldc 74, 2) := by decide +kernel
theorem dX5_fill_19 : decode cX5_fill 19 = .ok (.if_icmp .le 13, 3) := by decide +kernel
theorem dX5_fill_22 : decode cX5_fill 22 = .ok (.new 75, 3) := by decide +kernel
theorem dX5_fill_25 : decode cX5_fill 25 = .ok (.dup, 1) := by decide +kernel
theorem dX5_fill_26 : decode cX5_fill 26 = .ok (.ldc 77, 2) := by decide +kernel
theorem dX5_fill_28 : decode cX5_fill 28 = .ok (.invokespecial 79, 3) := by decide +kernel
theorem dX5_fill_31 : decode cX5_fill 31 = .ok (.athrow, 1) := by decide +kernel
theorem dX5_fill_32 : decode cX5_fill 32 = .ok (.aload_n 0, 1) := by decide +kernel
theorem dX5_fill_33 : decode cX5_fill 33 = .ok (.getfield 22, 3) := by decide +kernel
theorem dX5_fill_36 : decode cX5_fill 36 = .ok (.aload_n 0, 1) := by decide +kernel
theorem dX5_fill_37 : decode cX5_fill 37 = .ok (.getfield 10, 3) := by decide +kernel
theorem dX5_fill_40 : decode cX5_fill 40 = .ok (.invokevirtual 41, 3) := by decide +kernel
theorem dX5_fill_43 : decode cX5_fill 43 = .ok (.aload_n 0, 1) := by decide +kernel
theorem dX5_fill_44 : decode cX5_fill 44 = .ok (.getfield 10, 3) := by decide +kernel
theorem dX5_fill_47 : decode cX5_fill 47 = .ok (.dup, 1) := by decide +kernel
theorem dX5_fill_48 : decode cX5_fill 48 = .ok (.getfield 71, 3) := by decide +kernel
theorem dX5_fill_51 : decode cX5_fill 51 = .ok (.iload_n 1, 1) := by decide +kernel
theorem dX5_fill_52 : decode cX5_fill 52 = .ok (.iadd, 1) := by decide +kernel
theorem dX5_fill_53 : decode cX5_fill 53 = .ok (.putfield 71, 3) := by decide +kernel
theorem dX5_fill_56 : decode cX5_fill 56 = .ok (.aload_n 0, 1) := by decide +kernel
theorem dX5_fill_57 : decode cX5_fill 57 = .ok (.getfield 10, 3) := by decide +kernel
theorem dX5_fill_60 : decode cX5_fill 60 = .ok (.getfield 71, 3) := by decide +kernel
theorem dX5_fill_63 : decode cX5_fill 63 = .ok (.ireturn, 1) := by decide +kernel
set_option maxRecDepth 20000 in
theorem ggX5_set_X5_needSetting : GoodIn wsX5_set wsX5_needSetting := goodIn_ca (goodIn_r _ [10, 11, 12] (by decide +kernel) (by decide +kernel)) (goodIn_sub (fun _ h => List.mem_cons_of_mem _ (List.mem_append_left _ (List.mem_append_right _ h))) (by decide +kernel))
set_option maxRecDepth 20000 in
theorem gX5_set_X5_needSetting : GoodIn wsX5_set (va_wsS RX5 82 yX5_needSetting wsX5_needSetting) := goodIn_app (goodIn_of _ (by decide +kernel)) ggX5_set_X5_needSetting
set_option maxRecDepth 20000 in
theorem ggX5_set_X5_needWithin : GoodIn wsX5_set wsX5_needWithin := goodIn_ca (goodIn_r _ [15, 16, 17] (by decide +kernel) (by decide +kernel)) (goodIn_sub (fun _ h => List.mem_cons_of_mem _ (List.mem_append_right _ h)) (by decide +kernel))
set_option maxRecDepth 20000 in
theorem gX5_set_X5_needWithin : GoodIn wsX5_set (va_wsS RX5 37 yX5_needWithin wsX5_needWithin) := goodIn_app (goodIn_of _ (by decide +kernel)) ggX5_set_X5_needWithin
set_option maxRecDepth 20000 in
theorem ggX5_set_X3_keep : GoodIn wsX5_set wsX3_keep := goodIn_r _ [22, 23, 24, 25, 26, 27, 21, 28, 29, 30, 31, 32, 33, 34, 35, 36, 37, 38, 39, 40, 41, 42, 43, 44, 45, 46, 47, 48, 49, 50, 51, 52, 53, 54, 55, 9, 56, 57, 58, 59, 60, 61, 62, 63, 64, 65, 66, 67, 89, 90, 72, 73, 74, 75, 76, 77, 78, 79, 80, 81, 82, 83, 84, 85, 86, 87, 88, 91, 92, 93, 94, 95, 96] (by decide +kernel) (by decide +kernel)
set_option maxRecDepth 20000 in
theorem gX5_set_X3_keep : GoodIn wsX5_set (wsV RX5 41 RX3 yX3_keep wsX3_keep) := goodIn_app (goodIn_of _ (by decide +kernel)) ggX5_set_X3_keep
theorem dX5_set_0 : decode cX5_set 0 = .ok (.iload_n 1, 1) := by decide +kernel
theorem dX5_set_1 : decode cX5_set 1 = .ok (.invokestatic 82, 3) := by decide +kernel
theorem dX5_set_4 : decode cX5_set 4 = .ok (.iload_n 2, 1) := by decide +kernel
theorem dX5_set_5 : decode cX5_set 5 = .ok (.getstatic 85, 3) := by decide +kernel
theorem dX5_set_8 : decode cX5_set 8 = .ok (.iload_n 1, 1) := by decide +kernel
theorem dX5_set_9 : decode cX5_set 9 = .ok (.iaload, 1) := by decide +kernel
theorem dX5_set_10 : decode cX5_set 10 = .ok (.getstatic 88, 3) := by decide +kernel
theorem dX5_set_13 : decode cX5_set 13 = .ok (.iload_n 1, 1) := by decide +kernel
theorem dX5_set_14 : decode cX5_set 14 = .ok (.iaload, 1) := by decide +kernel
theorem dX5_set_15 : decode cX5_set 15 = .ok (.invokestatic 37, 3) := by decide +kernel
theorem dX5_set_18 : decode cX5_set 18 = .ok (.aload_n 0, 1) := by decide +kernel
theorem dX5_set_19 : decode cX5_set 19 = .ok (.getfield 22, 3) := by decide +kernel
theorem dX5_set_22 : decode cX5_set 22 = .ok (.aload_n 0, 1) := by decide +kernel
theorem dX5_set_23 : decode cX5_set 23 = .ok (.getfield 10, 3) := by decide +kernel
theorem dX5_set_26 : decode cX5_set 26 = .ok (.invokevirtual 41, 3) := by decide +kernel
theorem dX5_set_29 : decode cX5_set 29 = .ok (.aload_n 0, 1) := by decide +kernel
theorem dX5_set_30 : decode cX5_set 30 = .ok (.getfield 10, 3) := by decide +kernel
theorem dX5_set_33 : decode cX5_set 33 = .ok (.getfield 45, 3) := by decide +kernel
theorem dX5_set_36 : decode cX5_set 36 = .ok (.getfield 91, 3) := by decide +kernel
theorem dX5_set_39 : decode cX5_set 39 = .ok (.iload_n 1, 1) := by decide +kernel
theorem dX5_set_40 : decode cX5_set 40 = .ok (.iaload, 1) := by decide +kernel
theorem dX5_set_41 : decode cX5_set 41 = .ok (.istore_n 3, 1) := by decide +kernel
theorem dX5_set_42 : decode cX5_set 42 = .ok (.aload_n 0, 1) := by decide +kernel
theorem dX5_set_43 : decode cX5_set 43 = .ok (.getfield 10, 3) := by decide +kernel
theorem dX5_set_46 : decode cX5_set 46 = .ok (.getfield 45, 3) := by decide +kernel
theorem dX5_set_49 : decode cX5_set 49 = .ok (.getfield 91, 3) := by decide +kernel
theorem dX5_set_52 : decode cX5_set 52 = .ok (.iload_n 1, 1) := by decide +kernel
theorem dX5_set_53 : decode cX5_set 53 = .ok (.iload_n 2, 1) := by decide +kernel
theorem dX5_set_54 : decode cX5_set 54 = .ok (.iastore, 1) := by decide +kernel
theorem dX5_set_55 : decode cX5_set 55 = .ok (.iload_n 3, 1) := by decide +kernel
theorem dX5_set_56 : decode cX5_set 56 = .ok (.ireturn, 1) := by decide +kernel
set_option maxRecDepth 20000 in
theorem ggX5_cue_X5_needCue : GoodIn wsX5_cue wsX5_needCue := goodIn_ca (goodIn_ca (goodIn_r _ [9, 10, 11, 8, 12, 13, 14, 15, 16, 17, 18, 19] (by decide +kernel) (by decide +kernel)) (goodIn_sub (fun _ h => List.mem_cons_of_mem _ (List.mem_append_left _ (List.mem_append_right _ h))) (by decide +kernel))) (goodIn_sub (fun _ h => List.mem_cons_of_mem _ (List.mem_append_right _ h)) (by decide +kernel))
set_option maxRecDepth 20000 in
theorem gX5_cue_X5_needCue : GoodIn wsX5_cue (va_wsS RX5 94 yX5_needCue wsX5_needCue) := goodIn_app (goodIn_of _ (by decide +kernel)) ggX5_cue_X5_needCue
set_option maxRecDepth 20000 in
theorem ggX5_cue_X4_reasonAgainst : GoodIn wsX5_cue wsX4_reasonAgainst := goodIn_r _ [24, 25, 26, 27, 28, 29, 30, 31, 32, 33, 34, 35, 36, 37, 38, 39, 40, 41, 23, 42, 43, 44, 45, 46, 47, 48, 49, 50, 51, 106, 107, 108, 109, 110, 111, 112, 113, 114, 115, 116, 117, 118, 119, 120, 121, 122, 123, 124, 125, 126, 127, 128] (by decide +kernel) (by decide +kernel)
set_option maxRecDepth 20000 in
theorem gX5_cue_X4_reasonAgainst : GoodIn wsX5_cue (wsV RX5 97 RX4 yX4_reasonAgainst wsX4_reasonAgainst) := goodIn_app (goodIn_of _ (by decide +kernel)) ggX5_cue_X4_reasonAgainst
set_option maxRecDepth 20000 in
theorem ggX5_cue_X3_keep : GoodIn wsX5_cue wsX3_keep := goodIn_r _ [56, 57, 58, 59, 60, 61, 55, 62, 63, 64, 65, 23, 66, 43, 26, 67, 68, 25, 69, 70, 71, 72, 73, 74, 75, 76, 77, 78, 79, 80, 81, 82, 83, 84, 85, 8, 86, 87, 88, 89, 30, 90, 91, 37, 38, 51, 32, 92, 129, 130, 106, 107, 108, 109, 110, 111, 112, 113, 114, 115, 122, 123, 124, 125, 126, 127, 128, 116, 117, 118, 119, 120, 121] (by decide +kernel) (by decide +kernel)
set_option maxRecDepth 20000 in
theorem gX5_cue_X3_keep : GoodIn wsX5_cue (wsV RX5 41 RX3 yX3_keep wsX3_keep) := goodIn_app (goodIn_of _ (by decide +kernel)) ggX5_cue_X3_keep
set_option maxRecDepth 20000 in
theorem ggX5_cue_X1_add : GoodIn wsX5_cue wsX1_add := goodIn_r _ [96, 32, 37, 92, 91, 38, 51, 97, 28, 29, 30, 31, 98, 99, 100, 101, 116, 117, 118, 119, 120, 121] (by decide +kernel) (by decide +kernel)
set_option maxRecDepth 20000 in
theorem gX5_cue_X1_add : GoodIn wsX5_cue (wsV RX5 107 RX1 yX1_add wsX1_add) := goodIn_app (goodIn_of _ (by decide +kernel)) ggX5_cue_X1_add
theorem dX5_cue_0 : decode cX5_cue 0 = .ok (.iload_n 1, 1) := by decide +kernel
theorem dX5_cue_1 : decode cX5_cue 1 = .ok (.iload_n 2, 1) := by decide +kernel
theorem dX5_cue_2 : decode cX5_cue 2 = .ok (.iload_n 3, 1) := by decide +kernel
theorem dX5_cue_3 : decode cX5_cue 3 = .ok (.invokestatic 94, 3) := by decide +kernel
theorem dX5_cue_6 : decode cX5_cue 6 = .ok (.aload_n 0, 1) := by decide +kernel
theorem dX5_cue_7 : decode cX5_cue 7 = .ok (.getfield 10, 3) := by decide +kernel
theorem dX5_cue_10 : decode cX5_cue 10 = .ok (.iload_n 1, 1) := by decide +kernel
theorem dX5_cue_11 : decode cX5_cue 11 = .ok (.iload_n 2, 1) := by decide +kernel
theorem dX5_cue_12 : decode cX5_cue 12 = .ok (.iload_n 3, 1) := by decide +kernel
theorem dX5_cue_13 : decode cX5_cue 13 = .ok (.invokevirtual 97, 3) := by decide +kernel
theorem dX5_cue_16 : decode cX5_cue 16 = .ok (.ifCond .eq 13, 3) := by decide +kernel
theorem dX5_cue_19 : decode cX5_cue 19 = .ok (.new 75, 3) := by decide +kernel
theorem dX5_cue_22 : decode cX5_cue 22 = .ok (.dup, 1) := by decide +kernel
theorem dX5_cue_23 : decode cX5_cue 23 = .ok (.ldc 101, 2) := by decide +kernel
theorem dX5_cue_25 : decode cX5_cue 25 = .ok (.invokespecial 79, 3) := by decide +kernel
theorem dX5_cue_28 : decode cX5_cue 28 = .ok (.athrow, 1) := by decide +kernel
theorem dX5_cue_29 : decode cX5_cue 29 = .ok (.aload_n 0, 1) := by decide +kernel
theorem dX5_cue_30 : decode cX5_cue 30 = .ok (.getfield 22, 3) := by decide +kernel
theorem dX5_cue_33 : decode cX5_cue 33 = .ok (.aload_n 0, 1) := by decide +kernel
theorem dX5_cue_34 : decode cX5_cue 34 = .ok (.getfield 10, 3) := by decide +kernel
theorem dX5_cue_37 : decode cX5_cue 37 = .ok (.invokevirtual 41, 3) := by decide +kernel
theorem dX5_cue_40 : decode cX5_cue 40 = .ok (.aload_n 0, 1) := by decide +kernel
theorem dX5_cue_41 : decode cX5_cue 41 = .ok (.getfield 10, 3) := by decide +kernel
theorem dX5_cue_44 : decode cX5_cue 44 = .ok (.getfield 103, 3) := by decide +kernel
theorem dX5_cue_47 : decode cX5_cue 47 = .ok (.iload_n 1, 1) := by decide +kernel
theorem dX5_cue_48 : decode cX5_cue 48 = .ok (.iload_n 2, 1) := by decide +kernel
theorem dX5_cue_49 : decode cX5_cue 49 = .ok (.iload_n 3, 1) := by decide +kernel
theorem dX5_cue_50 : decode cX5_cue 50 = .ok (.invokevirtual 107, 3) := by decide +kernel
theorem dX5_cue_53 : decode cX5_cue 53 = .ok (.ireturn, 1) := by decide +kernel
set_option maxRecDepth 20000 in
theorem ggX5_drop_X1_placeOf : GoodIn wsX5_drop wsX1_placeOf := goodIn_r _ [11, 12, 13, 84, 85, 86, 87, 88, 89] (by decide +kernel) (by decide +kernel)
set_option maxRecDepth 20000 in
theorem gX5_drop_X1_placeOf : GoodIn wsX5_drop (wsV RX5 112 RX1 yX1_placeOf wsX1_placeOf) := goodIn_app (goodIn_of _ (by decide +kernel)) ggX5_drop_X1_placeOf
set_option maxRecDepth 20000 in
theorem ggX5_drop_X3_keep : GoodIn wsX5_drop wsX3_keep := goodIn_r _ [18, 19, 20, 21, 22, 23, 17, 24, 25, 26, 27, 28, 29, 30, 31, 32, 33, 34, 35, 36, 37, 38, 39, 40, 41, 42, 43, 44, 45, 46, 47, 48, 49, 50, 51, 52, 53, 54, 55, 56, 10, 57, 13, 58, 59, 60, 12, 61, 90, 91, 74, 75, 76, 77, 78, 79, 80, 81, 82, 83, 92, 93, 94, 95, 96, 97, 98, 84, 85, 86, 87, 88, 89] (by decide +kernel) (by decide +kernel)
set_option maxRecDepth 20000 in
theorem gX5_drop_X3_keep : GoodIn wsX5_drop (wsV RX5 41 RX3 yX3_keep wsX3_keep) := goodIn_app (goodIn_of _ (by decide +kernel)) ggX5_drop_X3_keep
set_option maxRecDepth 20000 in
theorem ggX5_drop_X1_removeAt : GoodIn wsX5_drop wsX1_removeAt := goodIn_r _ [65, 12, 66, 67, 68, 10, 69, 13, 58, 59, 60, 84, 85, 86, 87, 88, 89] (by decide +kernel) (by decide +kernel)
set_option maxRecDepth 20000 in
theorem gX5_drop_X1_removeAt : GoodIn wsX5_drop (wsV RX5 121 RX1 yX1_removeAt wsX1_removeAt) := goodIn_app (goodIn_of _ (by decide +kernel)) ggX5_drop_X1_removeAt
theorem dX5_drop_0 : decode cX5_drop 0 = .ok (.aload_n 0, 1) := by decide +kernel
theorem dX5_drop_1 : decode cX5_drop 1 = .ok (.getfield 10, 3) := by decide +kernel
theorem dX5_drop_4 : decode cX5_drop 4 = .ok (.getfield 103, 3) := by decide +kernel
theorem dX5_drop_7 : decode cX5_drop 7 = .ok (.iload_n 1, 1) := by decide +kernel
theorem dX5_drop_8 : decode cX5_drop 8 = .ok (.invokevirtual 112, 3) := by decide +kernel
theorem dX5_drop_11 : decode cX5_drop 11 = .ok (.istore_n 2, 1) := by decide +kernel
theorem dX5_drop_12 : decode cX5_drop 12 = .ok (.iload_n 2, 1) := by decide +kernel
theorem dX5_drop_13 : decode cX5_drop 13 = .ok (.iconst (-1), 1) := by decide +kernel
theorem dX5_drop_14 : decode cX5_drop 14 = .ok (.if_icmp .ne 13, 3) := by decide +kernel
theorem dX5_drop_17 : decode cX5_drop 17 = .ok (.new 116, 3) := by decide +kernel
theorem dX5_drop_20 : decode cX5_drop 20 = .ok (.dup, 1) := by decide +kernel
theorem dX5_drop_21 : decode cX5_drop 21 = .ok (.ldc 118, 2) := by decide +kernel
theorem dX5_drop_23 : decode cX5_drop 23 = .ok (.invokespecial 120, 3) := by decide +kernel
theorem dX5_drop_26 : decode cX5_drop 26 = .ok (.athrow, 1) := by decide +kernel
theorem dX5_drop_27 : decode cX5_drop 27 = .ok (.aload_n 0, 1) := by decide +kernel
theorem dX5_drop_28 : decode cX5_drop 28 = .ok (.getfield 22, 3) := by decide +kernel
theorem dX5_drop_31 : decode cX5_drop 31 = .ok (.aload_n 0, 1) := by decide +kernel
theorem dX5_drop_32 : decode cX5_drop 32 = .ok (.getfield 10, 3) := by decide +kernel
theorem dX5_drop_35 : decode cX5_drop 35 = .ok (.invokevirtual 41, 3) := by decide +kernel
theorem dX5_drop_38 : decode cX5_drop 38 = .ok (.aload_n 0, 1) := by decide +kernel
theorem dX5_drop_39 : decode cX5_drop 39 = .ok (.getfield 10, 3) := by decide +kernel
theorem dX5_drop_42 : decode cX5_drop 42 = .ok (.getfield 103, 3) := by decide +kernel
theorem dX5_drop_45 : decode cX5_drop 45 = .ok (.iload_n 2, 1) := by decide +kernel
theorem dX5_drop_46 : decode cX5_drop 46 = .ok (.invokevirtual 121, 3) := by decide +kernel
theorem dX5_drop_49 : decode cX5_drop 49 = .ok (.aload_n 0, 1) := by decide +kernel
theorem dX5_drop_50 : decode cX5_drop 50 = .ok (.getfield 10, 3) := by decide +kernel
theorem dX5_drop_53 : decode cX5_drop 53 = .ok (.getfield 103, 3) := by decide +kernel
theorem dX5_drop_56 : decode cX5_drop 56 = .ok (.getfield 124, 3) := by decide +kernel
theorem dX5_drop_59 : decode cX5_drop 59 = .ok (.ireturn, 1) := by decide +kernel
set_option maxRecDepth 20000 in
theorem ggX5_play_X5_needWithin : GoodIn wsX5_play wsX5_needWithin := goodIn_ca (goodIn_r _ [7, 8, 9] (by decide +kernel) (by decide +kernel)) (goodIn_sub (fun _ h => List.mem_cons_of_mem _ (List.mem_append_right _ h)) (by decide +kernel))
set_option maxRecDepth 20000 in
theorem gX5_play_X5_needWithin : GoodIn wsX5_play (va_wsS RX5 37 yX5_needWithin wsX5_needWithin) := goodIn_app (goodIn_of _ (by decide +kernel)) ggX5_play_X5_needWithin
set_option maxRecDepth 20000 in
theorem ggX5_play_X3_keep : GoodIn wsX5_play wsX3_keep := goodIn_r _ [14, 15, 16, 17, 18, 19, 13, 20, 21, 22, 23, 24, 25, 26, 27, 28, 29, 30, 31, 32, 33, 34, 35, 36, 37, 38, 39, 40, 41, 42, 43, 44, 45, 46, 47, 6, 48, 49, 50, 51, 52, 53, 54, 55, 56, 57, 58, 59, 142, 143, 132, 133, 134, 135, 136, 137, 138, 139, 140, 141, 144, 145, 146, 147, 148, 149, 150, 151, 152, 153, 154, 155, 156] (by decide +kernel) (by decide +kernel)
set_option maxRecDepth 20000 in
theorem gX5_play_X3_keep : GoodIn wsX5_play (wsV RX5 41 RX3 yX3_keep wsX3_keep) := goodIn_app (goodIn_of _ (by decide +kernel)) ggX5_play_X3_keep
set_option maxRecDepth 20000 in
theorem ggX5_play_X4_playTicks : GoodIn wsX5_play wsX4_playTicks := goodIn_r _ [63, 26, 30, 64, 65, 66, 24, 67, 27, 68, 69, 70, 71, 72, 33, 73, 74, 75, 52, 76, 58, 77, 78, 79, 80, 54, 55, 56, 57, 81, 82, 83, 38, 84, 45, 43, 42, 85, 86, 87, 88, 89, 90, 91, 92, 93, 94, 95, 29, 32, 31, 96, 34, 97, 28, 98, 99, 100, 101, 102, 103, 104, 105, 106, 107, 108, 109, 40, 110, 111, 112, 113, 44, 114, 6, 115, 116, 117, 118, 119, 46, 120, 121, 122, 123, 124, 125, 126, 127, 132, 133, 134, 135, 136, 137, 138, 139, 140, 141, 151, 152, 153, 154, 155, 156, 144, 145, 146, 147, 148, 149, 150] (by decide +kernel) (by decide +kernel)
set_option maxRecDepth 20000 in
theorem gX5_play_X4_playTicks : GoodIn wsX5_play (wsV RX5 130 RX4 yX4_playTicks wsX4_playTicks) := goodIn_app (goodIn_of _ (by decide +kernel)) ggX5_play_X4_playTicks
theorem dX5_play_0 : decode cX5_play 0 = .ok (.iload_n 1, 1) := by decide +kernel
theorem dX5_play_1 : decode cX5_play 1 = .ok (.iconst 1, 1) := by decide +kernel
theorem dX5_play_2 : decode cX5_play 2 = .ok (.bipush 100, 2) := by decide +kernel
theorem dX5_play_4 : decode cX5_play 4 = .ok (.invokestatic 37, 3) := by decide +kernel
theorem dX5_play_7 : decode cX5_play 7 = .ok (.aload_n 0, 1) := by decide +kernel
theorem dX5_play_8 : decode cX5_play 8 = .ok (.getfield 22, 3) := by decide +kernel
theorem dX5_play_11 : decode cX5_play 11 = .ok (.aload_n 0, 1) := by decide +kernel
theorem dX5_play_12 : decode cX5_play 12 = .ok (.getfield 10, 3) := by decide +kernel
theorem dX5_play_15 : decode cX5_play 15 = .ok (.invokevirtual 41, 3) := by decide +kernel
theorem dX5_play_18 : decode cX5_play 18 = .ok (.aload_n 0, 1) := by decide +kernel
theorem dX5_play_19 : decode cX5_play 19 = .ok (.getfield 10, 3) := by decide +kernel
theorem dX5_play_22 : decode cX5_play 22 = .ok (.getfield 127, 3) := by decide +kernel
theorem dX5_play_25 : decode cX5_play 25 = .ok (.istore_n 2, 1) := by decide +kernel
theorem dX5_play_26 : decode cX5_play 26 = .ok (.aload_n 0, 1) := by decide +kernel
theorem dX5_play_27 : decode cX5_play 27 = .ok (.getfield 10, 3) := by decide +kernel
theorem dX5_play_30 : decode cX5_play 30 = .ok (.iload_n 1, 1) := by decide +kernel
theorem dX5_play_31 : decode cX5_play 31 = .ok (.invokevirtual 130, 3) := by decide +kernel
theorem dX5_play_34 : decode cX5_play 34 = .ok (.aload_n 0, 1) := by decide +kernel
theorem dX5_play_35 : decode cX5_play 35 = .ok (.getfield 10, 3) := by decide +kernel
theorem dX5_play_38 : decode cX5_play 38 = .ok (.getfield 127, 3) := by decide +kernel
theorem dX5_play_41 : decode cX5_play 41 = .ok (.iload_n 2, 1) := by decide +kernel
theorem dX5_play_42 : decode cX5_play 42 = .ok (.isub, 1) := by decide +kernel
theorem dX5_play_43 : decode cX5_play 43 = .ok (.ireturn, 1) := by decide +kernel
set_option maxRecDepth 20000 in
theorem ggX5_append_X5_needWithin : GoodIn wsX5_append wsX5_needWithin := goodIn_ca (goodIn_r _ [9, 10, 11] (by decide +kernel) (by decide +kernel)) (goodIn_sub (fun _ h => List.mem_cons_of_mem _ (List.mem_append_right _ h)) (by decide +kernel))
set_option maxRecDepth 20000 in
theorem gX5_append_X5_needWithin : GoodIn wsX5_append (va_wsS RX5 37 yX5_needWithin wsX5_needWithin) := goodIn_app (goodIn_of _ (by decide +kernel)) ggX5_append_X5_needWithin
theorem dX5_append_0 : decode cX5_append 0 = .ok (.iload_n 1, 1) := by decide +kernel
theorem dX5_append_1 : decode cX5_append 1 = .ok (.bipush 33, 2) := by decide +kernel
theorem dX5_append_3 : decode cX5_append 3 = .ok (.bipush 126, 2) := by decide +kernel
theorem dX5_append_5 : decode cX5_append 5 = .ok (.invokestatic 37, 3) := by decide +kernel
theorem dX5_append_8 : decode cX5_append 8 = .ok (.aload_n 0, 1) := by decide +kernel
theorem dX5_append_9 : decode cX5_append 9 = .ok (.getfield 29, 3) := by decide +kernel
theorem dX5_append_12 : decode cX5_append 12 = .ok (.getfield 133, 3) := by decide +kernel
theorem dX5_append_15 : decode cX5_append 15 = .ok (.bipush 60, 2) := by decide +kernel
theorem dX5_append_17 : decode cX5_append 17 = .ok (.if_icmp .lt 13, 3) := by decide +kernel
theorem dX5_append_20 : decode cX5_append 20 = .ok (.new 75, 3) := by decide +kernel
theorem dX5_append_23 : decode cX5_append 23 = .ok (.dup, 1) := by decide +kernel
theorem dX5_append_24 : decode cX5_append 24 = .ok (.ldc 136, 2) := by decide +kernel
theorem dX5_append_26 : decode cX5_append 26 = .ok (.invokespecial 79, 3) := by decide +kernel
theorem dX5_append_29 : decode cX5_append 29 = .ok (.athrow, 1) := by decide +kernel
theorem dX5_append_30 : decode cX5_append 30 = .ok (.aload_n 0, 1) := by decide +kernel
theorem dX5_append_31 : decode cX5_append 31 = .ok (.getfield 29, 3) := by decide +kernel
theorem dX5_append_34 : decode cX5_append 34 = .ok (.getfield 138, 3) := by decide +kernel
theorem dX5_append_37 : decode cX5_append 37 = .ok (.aload_n 0, 1) := by decide +kernel
theorem dX5_append_38 : decode cX5_append 38 = .ok (.getfield 29, 3) := by decide +kernel
theorem dX5_append_41 : decode cX5_append 41 = .ok (.getfield 133, 3) := by decide +kernel
theorem dX5_append_44 : decode cX5_append 44 = .ok (.iload_n 1, 1) := by decide +kernel
theorem dX5_append_45 : decode cX5_append 45 = .ok (.iastore, 1) := by decide +kernel
theorem dX5_append_46 : decode cX5_append 46 = .ok (.aload_n 0, 1) := by decide +kernel
theorem dX5_append_47 : decode cX5_append 47 = .ok (.getfield 29, 3) := by decide +kernel
theorem dX5_append_50 : decode cX5_append 50 = .ok (.dup, 1) := by decide +kernel
theorem dX5_append_51 : decode cX5_append 51 = .ok (.getfield 133, 3) := by decide +kernel
theorem dX5_append_54 : decode cX5_append 54 = .ok (.iconst 1, 1) := by decide +kernel
theorem dX5_append_55 : decode cX5_append 55 = .ok (.iadd, 1) := by decide +kernel
theorem dX5_append_56 : decode cX5_append 56 = .ok (.putfield 133, 3) := by decide +kernel
theorem dX5_append_59 : decode cX5_append 59 = .ok (.aload_n 0, 1) := by decide +kernel
theorem dX5_append_60 : decode cX5_append 60 = .ok (.getfield 29, 3) := by decide +kernel
theorem dX5_append_63 : decode cX5_append 63 = .ok (.getfield 133, 3) := by decide +kernel
theorem dX5_append_66 : decode cX5_append 66 = .ok (.ireturn, 1) := by decide +kernel
theorem dX5_clearBuffer_0 : decode cX5_clearBuffer 0 = .ok (.aload_n 0, 1) := by decide +kernel
theorem dX5_clearBuffer_1 : decode cX5_clearBuffer 1 = .ok (.getfield 29, 3) := by decide +kernel
theorem dX5_clearBuffer_4 : decode cX5_clearBuffer 4 = .ok (.getfield 133, 3) := by decide +kernel
theorem dX5_clearBuffer_7 : decode cX5_clearBuffer 7 = .ok (.istore_n 1, 1) := by decide +kernel
theorem dX5_clearBuffer_8 : decode cX5_clearBuffer 8 = .ok (.aload_n 0, 1) := by decide +kernel
theorem dX5_clearBuffer_9 : decode cX5_clearBuffer 9 = .ok (.getfield 29, 3) := by decide +kernel
theorem dX5_clearBuffer_12 : decode cX5_clearBuffer 12 = .ok (.iconst 0, 1) := by decide +kernel
theorem dX5_clearBuffer_13 : decode cX5_clearBuffer 13 = .ok (.putfield 133, 3) := by decide +kernel
theorem dX5_clearBuffer_16 : decode cX5_clearBuffer 16 = .ok (.iload_n 1, 1) := by decide +kernel
theorem dX5_clearBuffer_17 : decode cX5_clearBuffer 17 = .ok (.ireturn, 1) := by decide +kernel
set_option maxRecDepth 20000 in
theorem ggX5_firstError_X0_placeOfError : GoodIn wsX5_firstError wsX0_placeOfError := goodIn_r _ [6, 7, 8, 9, 10, 5, 11, 12, 13, 14, 15, 16, 17, 18, 19, 20, 21, 26, 27] (by decide +kernel) (by decide +kernel)
set_option maxRecDepth 20000 in
theorem gX5_firstError_X0_placeOfError : GoodIn wsX5_firstError (wsV RX5 141 RX0 yX0_placeOfError wsX0_placeOfError) := goodIn_app (goodIn_of _ (by decide +kernel)) ggX5_firstError_X0_placeOfError
theorem dX5_firstError_0 : decode cX5_firstError 0 = .ok (.aload_n 0, 1) := by decide +kernel
theorem dX5_firstError_1 : decode cX5_firstError 1 = .ok (.getfield 29, 3) := by decide +kernel
theorem dX5_firstError_4 : decode cX5_firstError 4 = .ok (.invokevirtual 141, 3) := by decide +kernel
theorem dX5_firstError_7 : decode cX5_firstError 7 = .ok (.ireturn, 1) := by decide +kernel
set_option maxRecDepth 20000 in
theorem ggX5_cueAll_X0_isComplete : GoodIn wsX5_cueAll wsX0_isComplete := goodIn_r _ [11, 12, 13, 14, 15, 10, 16, 17, 18, 19, 20, 21, 22, 23, 24, 25, 26, 126, 127] (by decide +kernel) (by decide +kernel)
set_option maxRecDepth 20000 in
theorem gX5_cueAll_X0_isComplete : GoodIn wsX5_cueAll (wsV RX5 145 RX0 yX0_isComplete wsX0_isComplete) := goodIn_app (goodIn_of _ (by decide +kernel)) ggX5_cueAll_X0_isComplete
set_option maxRecDepth 20000 in
theorem ggX5_cueAll_X3_keep : GoodIn wsX5_cueAll wsX3_keep := goodIn_r _ [31, 32, 33, 34, 35, 36, 30, 37, 38, 39, 40, 41, 42, 43, 44, 45, 46, 47, 48, 49, 50, 51, 52, 53, 54, 55, 56, 57, 58, 59, 60, 61, 62, 63, 64, 65, 66, 67, 68, 69, 70, 71, 72, 73, 74, 75, 76, 77, 128, 129, 130, 131, 132, 133, 134, 135, 136, 137, 138, 139, 140, 141, 142, 143, 144, 145, 146, 147, 148, 149, 150, 151, 152] (by decide +kernel) (by decide +kernel)
set_option maxRecDepth 20000 in
theorem gX5_cueAll_X3_keep : GoodIn wsX5_cueAll (wsV RX5 41 RX3 yX3_keep wsX3_keep) := goodIn_app (goodIn_of _ (by decide +kernel)) ggX5_cueAll_X3_keep
set_option maxRecDepth 20000 in
theorem ggX5_cueAll_X4_addCuesOf : GoodIn wsX5_cueAll wsX4_addCuesOf := goodIn_r _ [81, 82, 83, 14, 15, 10, 16, 12, 17, 84, 22, 23, 85, 25, 26, 86, 87, 88, 41, 89, 44, 90, 91, 92, 93, 47, 94, 95, 96, 70, 97, 76, 98, 99, 100, 101, 73, 74, 102, 103, 104, 105, 43, 106, 107, 108, 109, 110, 111, 112, 75, 113, 114, 115, 116, 77, 72, 117, 118, 119, 120, 121, 126, 127, 130, 131, 132, 133, 134, 135, 136, 137, 138, 139, 147, 148, 149, 150, 151, 152, 140, 141, 142, 143, 144, 145, 146] (by decide +kernel) (by decide +kernel)
set_option maxRecDepth 20000 in
theorem gX5_cueAll_X4_addCuesOf : GoodIn wsX5_cueAll (wsV RX5 154 RX4 yX4_addCuesOf wsX4_addCuesOf) := goodIn_app (goodIn_of _ (by decide +kernel)) ggX5_cueAll_X4_addCuesOf
theorem dX5_cueAll_0 : decode cX5_cueAll 0 = .ok (.aload_n 0, 1) := by decide +kernel
theorem dX5_cueAll_1 : decode cX5_cueAll 1 = .ok (.getfield 29, 3) := by decide +kernel
theorem dX5_cueAll_4 : decode cX5_cueAll 4 = .ok (.invokevirtual 145, 3) := by decide +kernel
theorem dX5_cueAll_7 : decode cX5_cueAll 7 = .ok (.ifCond .ne 13, 3) := by decide +kernel
theorem dX5_cueAll_10 : decode cX5_cueAll 10 = .ok (.new 149, 3) := by decide +kernel
theorem dX5_cueAll_13 : decode cX5_cueAll 13 = .ok (.dup, 1) := by decide +kernel
theorem dX5_cueAll_14 : decode cX5_cueAll 14 = .ok (.ldc 151, 2) := by decide +kernel
theorem dX5_cueAll_16 : decode cX5_cueAll 16 = .ok (.invokespecial 153, 3) := by decide +kernel
theorem dX5_cueAll_19 : decode cX5_cueAll 19 = .ok (.athrow, 1) := by decide +kernel
theorem dX5_cueAll_20 : decode cX5_cueAll 20 = .ok (.aload_n 0, 1) := by decide +kernel
theorem dX5_cueAll_21 : decode cX5_cueAll 21 = .ok (.getfield 22, 3) := by decide +kernel
theorem dX5_cueAll_24 : decode cX5_cueAll 24 = .ok (.aload_n 0, 1) := by decide +kernel
theorem dX5_cueAll_25 : decode cX5_cueAll 25 = .ok (.getfield 10, 3) := by decide +kernel
theorem dX5_cueAll_28 : decode cX5_cueAll 28 = .ok (.invokevirtual 41, 3) := by decide +kernel
theorem dX5_cueAll_31 : decode cX5_cueAll 31 = .ok (.aload_n 0, 1) := by decide +kernel
theorem dX5_cueAll_32 : decode cX5_cueAll 32 = .ok (.getfield 10, 3) := by decide +kernel
theorem dX5_cueAll_35 : decode cX5_cueAll 35 = .ok (.aload_n 0, 1) := by decide +kernel
theorem dX5_cueAll_36 : decode cX5_cueAll 36 = .ok (.getfield 29, 3) := by decide +kernel
theorem dX5_cueAll_39 : decode cX5_cueAll 39 = .ok (.invokevirtual 154, 3) := by decide +kernel
theorem dX5_cueAll_42 : decode cX5_cueAll 42 = .ok (.istore_n 1, 1) := by decide +kernel
theorem dX5_cueAll_43 : decode cX5_cueAll 43 = .ok (.aload_n 0, 1) := by decide +kernel
theorem dX5_cueAll_44 : decode cX5_cueAll 44 = .ok (.getfield 29, 3) := by decide +kernel
theorem dX5_cueAll_47 : decode cX5_cueAll 47 = .ok (.iconst 0, 1) := by decide +kernel
theorem dX5_cueAll_48 : decode cX5_cueAll 48 = .ok (.putfield 133, 3) := by decide +kernel
theorem dX5_cueAll_51 : decode cX5_cueAll 51 = .ok (.iload_n 1, 1) := by decide +kernel
theorem dX5_cueAll_52 : decode cX5_cueAll 52 = .ok (.ireturn, 1) := by decide +kernel
set_option maxRecDepth 20000 in
theorem ggX5_undo_X3_restore : GoodIn wsX5_undo wsX3_restore := goodIn_r _ [10, 11, 12, 13, 14, 15, 16, 17, 18, 19, 20, 21, 22, 23, 24, 25, 26, 27, 28, 29, 30, 31, 32, 33, 34, 35, 36, 37, 38, 39, 40, 41, 42, 43, 44, 45, 46, 47, 48, 49, 50, 51, 52, 57, 58, 59, 60, 61, 62, 63, 64, 65, 66, 67, 68, 69, 70, 71, 72, 73, 74, 75, 76, 77, 78, 79, 80, 81] (by decide +kernel) (by decide +kernel)
set_option maxRecDepth 20000 in
theorem gX5_undo_X3_restore : GoodIn wsX5_undo (wsV RX5 161 RX3 yX3_restore wsX3_restore) := goodIn_app (goodIn_of _ (by decide +kernel)) ggX5_undo_X3_restore
theorem dX5_undo_0 : decode cX5_undo 0 = .ok (.aload_n 0, 1) := by decide +kernel
theorem dX5_undo_1 : decode cX5_undo 1 = .ok (.getfield 22, 3) := by decide +kernel
theorem dX5_undo_4 : decode cX5_undo 4 = .ok (.getfield 158, 3) := by decide +kernel
theorem dX5_undo_7 : decode cX5_undo 7 = .ok (.ifCond .ne 13, 3) := by decide +kernel
theorem dX5_undo_10 : decode cX5_undo 10 = .ok (.new 75, 3) := by decide +kernel
theorem dX5_undo_13 : decode cX5_undo 13 = .ok (.dup, 1) := by decide +kernel
theorem dX5_undo_14 : decode cX5_undo 14 = .ok (.ldc 159, 2) := by decide +kernel
theorem dX5_undo_16 : decode cX5_undo 16 = .ok (.invokespecial 79, 3) := by decide +kernel
theorem dX5_undo_19 : decode cX5_undo 19 = .ok (.athrow, 1) := by decide +kernel
theorem dX5_undo_20 : decode cX5_undo 20 = .ok (.aload_n 0, 1) := by decide +kernel
theorem dX5_undo_21 : decode cX5_undo 21 = .ok (.getfield 22, 3) := by decide +kernel
theorem dX5_undo_24 : decode cX5_undo 24 = .ok (.aload_n 0, 1) := by decide +kernel
theorem dX5_undo_25 : decode cX5_undo 25 = .ok (.getfield 10, 3) := by decide +kernel
theorem dX5_undo_28 : decode cX5_undo 28 = .ok (.invokevirtual 161, 3) := by decide +kernel
theorem dX5_undo_31 : decode cX5_undo 31 = .ok (.aload_n 0, 1) := by decide +kernel
theorem dX5_undo_32 : decode cX5_undo 32 = .ok (.getfield 22, 3) := by decide +kernel
theorem dX5_undo_35 : decode cX5_undo 35 = .ok (.getfield 158, 3) := by decide +kernel
theorem dX5_undo_38 : decode cX5_undo 38 = .ok (.ireturn, 1) := by decide +kernel
set_option maxRecDepth 20000 in
theorem ggX5_jetOf_X5_needJet : GoodIn wsX5_jetOf wsX5_needJet := goodIn_ca (goodIn_r _ [5, 6, 7] (by decide +kernel) (by decide +kernel)) (goodIn_sub (fun _ h => List.mem_cons_of_mem _ (List.mem_append_left _ (List.mem_append_right _ h))) (by decide +kernel))
set_option maxRecDepth 20000 in
theorem gX5_jetOf_X5_needJet : GoodIn wsX5_jetOf (va_wsS RX5 33 yX5_needJet wsX5_needJet) := goodIn_app (goodIn_of _ (by decide +kernel)) ggX5_jetOf_X5_needJet
set_option maxRecDepth 20000 in
theorem ggX5_jetOf_X5_needWithin : GoodIn wsX5_jetOf wsX5_needWithin := goodIn_ca (goodIn_r _ [10, 11, 12] (by decide +kernel) (by decide +kernel)) (goodIn_sub (fun _ h => List.mem_cons_of_mem _ (List.mem_append_right _ h)) (by decide +kernel))
set_option maxRecDepth 20000 in
theorem gX5_jetOf_X5_needWithin : GoodIn wsX5_jetOf (va_wsS RX5 37 yX5_needWithin wsX5_needWithin) := goodIn_app (goodIn_of _ (by decide +kernel)) ggX5_jetOf_X5_needWithin
set_option maxRecDepth 20000 in
theorem ggX5_jetOf_X4_numberOfJet : GoodIn wsX5_jetOf wsX4_numberOfJet := goodIn_r _ [17, 18, 19, 20, 21, 22, 23, 24, 25, 26, 27, 28, 29, 30, 31, 32, 33, 34, 35, 36, 37, 38, 39, 40, 41, 42, 43, 44, 45, 46, 47, 48, 49, 4, 50, 51, 52, 53, 54, 55, 56, 57, 58, 59, 60, 61, 62, 63, 68, 69, 70, 71, 72, 73, 74, 75, 76, 77, 78, 79, 80, 81, 82, 83, 84] (by decide +kernel) (by decide +kernel)
set_option maxRecDepth 20000 in
theorem gX5_jetOf_X4_numberOfJet : GoodIn wsX5_jetOf (wsV RX5 164 RX4 yX4_numberOfJet wsX4_numberOfJet) := goodIn_app (goodIn_of _ (by decide +kernel)) ggX5_jetOf_X4_numberOfJet
theorem dX5_jetOf_0 : decode cX5_jetOf 0 = .ok (.iload_n 1, 1) := by decide +kernel
theorem dX5_jetOf_1 : decode cX5_jetOf 1 = .ok (.invokestatic 33, 3) := by decide +kernel
theorem dX5_jetOf_4 : decode cX5_jetOf 4 = .ok (.iload_n 2, 1) := by decide +kernel
theorem dX5_jetOf_5 : decode cX5_jetOf 5 = .ok (.iconst 0, 1) := by decide +kernel
theorem dX5_jetOf_6 : decode cX5_jetOf 6 = .ok (.bipush 7, 2) := by decide +kernel
theorem dX5_jetOf_8 : decode cX5_jetOf 8 = .ok (.invokestatic 37, 3) := by decide +kernel
theorem dX5_jetOf_11 : decode cX5_jetOf 11 = .ok (.aload_n 0, 1) := by decide +kernel
theorem dX5_jetOf_12 : decode cX5_jetOf 12 = .ok (.getfield 10, 3) := by decide +kernel
theorem dX5_jetOf_15 : decode cX5_jetOf 15 = .ok (.iload_n 1, 1) := by decide +kernel
theorem dX5_jetOf_16 : decode cX5_jetOf 16 = .ok (.iload_n 2, 1) := by decide +kernel
theorem dX5_jetOf_17 : decode cX5_jetOf 17 = .ok (.invokevirtual 164, 3) := by decide +kernel
theorem dX5_jetOf_20 : decode cX5_jetOf 20 = .ok (.ireturn, 1) := by decide +kernel
set_option maxRecDepth 20000 in
theorem ggX5_pumpOf_X5_needPump : GoodIn wsX5_pumpOf wsX5_needPump := goodIn_ca (goodIn_r _ [7, 8, 9] (by decide +kernel) (by decide +kernel)) (goodIn_sub (fun _ h => List.mem_cons_of_mem _ (List.mem_append_left _ (List.mem_append_right _ h))) (by decide +kernel))
set_option maxRecDepth 20000 in
theorem gX5_pumpOf_X5_needPump : GoodIn wsX5_pumpOf (va_wsS RX5 61 yX5_needPump wsX5_needPump) := goodIn_app (goodIn_of _ (by decide +kernel)) ggX5_pumpOf_X5_needPump
set_option maxRecDepth 20000 in
theorem ggX5_pumpOf_X5_needWithin : GoodIn wsX5_pumpOf wsX5_needWithin := goodIn_ca (goodIn_r _ [12, 13, 14] (by decide +kernel) (by decide +kernel)) (goodIn_sub (fun _ h => List.mem_cons_of_mem _ (List.mem_append_right _ h)) (by decide +kernel))
set_option maxRecDepth 20000 in
theorem gX5_pumpOf_X5_needWithin : GoodIn wsX5_pumpOf (va_wsS RX5 37 yX5_needWithin wsX5_needWithin) := goodIn_app (goodIn_of _ (by decide +kernel)) ggX5_pumpOf_X5_needWithin
set_option maxRecDepth 20000 in
theorem ggX5_pumpOf_X2_pumpAsks : GoodIn wsX5_pumpOf wsX2_pumpAsks := goodIn_r _ [19, 20, 21, 22, 18, 23, 24, 25, 65, 66, 67, 68, 69, 70, 71] (by decide +kernel) (by decide +kernel)
set_option maxRecDepth 20000 in
theorem gX5_pumpOf_X2_pumpAsks : GoodIn wsX5_pumpOf (wsV RX5 168 RX2 yX2_pumpAsks wsX2_pumpAsks) := goodIn_app (goodIn_of _ (by decide +kernel)) ggX5_pumpOf_X2_pumpAsks
set_option maxRecDepth 20000 in
theorem ggX5_pumpOf_X2_pumpGives : GoodIn wsX5_pumpOf wsX2_pumpGives := goodIn_r _ [29, 30, 16, 17, 18, 19, 20, 21, 22, 23, 24, 25, 31, 32, 33, 34, 35, 36, 37, 38, 39, 40, 6, 41, 42, 43, 44, 45, 46, 47, 48, 49, 50, 65, 66, 67, 68, 69, 70, 71] (by decide +kernel) (by decide +kernel)
set_option maxRecDepth 20000 in
theorem gX5_pumpOf_X2_pumpGives : GoodIn wsX5_pumpOf (wsV RX5 171 RX2 yX2_pumpGives wsX2_pumpGives) := goodIn_app (goodIn_of _ (by decide +kernel)) ggX5_pumpOf_X2_pumpGives
theorem dX5_pumpOf_0 : decode cX5_pumpOf 0 = .ok (.iload_n 1, 1) := by decide +kernel
theorem dX5_pumpOf_1 : decode cX5_pumpOf 1 = .ok (.invokestatic 61, 3) := by decide +kernel
theorem dX5_pumpOf_4 : decode cX5_pumpOf 4 = .ok (.iload_n 2, 1) := by decide +kernel
theorem dX5_pumpOf_5 : decode cX5_pumpOf 5 = .ok (.iconst 0, 1) := by decide +kernel
theorem dX5_pumpOf_6 : decode cX5_pumpOf 6 = .ok (.iconst 2, 1) := by decide +kernel
theorem dX5_pumpOf_7 : decode cX5_pumpOf 7 = .ok (.invokestatic 37, 3) := by decide +kernel
theorem dX5_pumpOf_10 : decode cX5_pumpOf 10 = .ok (.iload_n 2, 1) := by decide +kernel
theorem dX5_pumpOf_11 : decode cX5_pumpOf 11 = .ok (.lookupswitch 50 #[(0, 25), (1, 38)], 25) := by decide +kernel
theorem dX5_pumpOf_36 : decode cX5_pumpOf 36 = .ok (.aload_n 0, 1) := by decide +kernel
theorem dX5_pumpOf_37 : decode cX5_pumpOf 37 = .ok (.getfield 10, 3) := by decide +kernel
theorem dX5_pumpOf_40 : decode cX5_pumpOf 40 = .ok (.getfield 45, 3) := by decide +kernel
theorem dX5_pumpOf_43 : decode cX5_pumpOf 43 = .ok (.getfield 64, 3) := by decide +kernel
theorem dX5_pumpOf_46 : decode cX5_pumpOf 46 = .ok (.iload_n 1, 1) := by decide +kernel
theorem dX5_pumpOf_47 : decode cX5_pumpOf 47 = .ok (.iaload, 1) := by decide +kernel
theorem dX5_pumpOf_48 : decode cX5_pumpOf 48 = .ok (.ireturn, 1) := by decide +kernel
theorem dX5_pumpOf_49 : decode cX5_pumpOf 49 = .ok (.aload_n 0, 1) := by decide +kernel
theorem dX5_pumpOf_50 : decode cX5_pumpOf 50 = .ok (.getfield 10, 3) := by decide +kernel
theorem dX5_pumpOf_53 : decode cX5_pumpOf 53 = .ok (.getfield 45, 3) := by decide +kernel
theorem dX5_pumpOf_56 : decode cX5_pumpOf 56 = .ok (.iload_n 1, 1) := by decide +kernel
theorem dX5_pumpOf_57 : decode cX5_pumpOf 57 = .ok (.invokevirtual 168, 3) := by decide +kernel
theorem dX5_pumpOf_60 : decode cX5_pumpOf 60 = .ok (.ireturn, 1) := by decide +kernel
theorem dX5_pumpOf_61 : decode cX5_pumpOf 61 = .ok (.aload_n 0, 1) := by decide +kernel
theorem dX5_pumpOf_62 : decode cX5_pumpOf 62 = .ok (.getfield 10, 3) := by decide +kernel
theorem dX5_pumpOf_65 : decode cX5_pumpOf 65 = .ok (.getfield 45, 3) := by decide +kernel
theorem dX5_pumpOf_68 : decode cX5_pumpOf 68 = .ok (.iload_n 1, 1) := by decide +kernel
theorem dX5_pumpOf_69 : decode cX5_pumpOf 69 = .ok (.invokevirtual 171, 3) := by decide +kernel
theorem dX5_pumpOf_72 : decode cX5_pumpOf 72 = .ok (.ireturn, 1) := by decide +kernel
set_option maxRecDepth 20000 in
theorem ggX5_cueOf_X5_needWithin : GoodIn wsX5_cueOf wsX5_needWithin := goodIn_ca (goodIn_r _ [8, 1, 2] (by decide +kernel) (by decide +kernel)) (goodIn_sub (fun _ h => List.mem_cons_of_mem _ (List.mem_append_right _ h)) (by decide +kernel))
set_option maxRecDepth 20000 in
theorem gX5_cueOf_X5_needWithin : GoodIn wsX5_cueOf (va_wsS RX5 37 yX5_needWithin wsX5_needWithin) := goodIn_app (goodIn_of _ (by decide +kernel)) ggX5_cueOf_X5_needWithin
set_option maxRecDepth 20000 in
theorem ggX5_cueOf_X1_numberAt : GoodIn wsX5_cueOf wsX1_numberAt := goodIn_r _ [13, 14, 15, 16, 17, 18, 33, 34, 35, 36, 37, 38] (by decide +kernel) (by decide +kernel)
set_option maxRecDepth 20000 in
theorem gX5_cueOf_X1_numberAt : GoodIn wsX5_cueOf (wsV RX5 176 RX1 yX1_numberAt wsX1_numberAt) := goodIn_app (goodIn_of _ (by decide +kernel)) ggX5_cueOf_X1_numberAt
theorem dX5_cueOf_0 : decode cX5_cueOf 0 = .ok (.iload_n 1, 1) := by decide +kernel
theorem dX5_cueOf_1 : decode cX5_cueOf 1 = .ok (.ifCond .ge 13, 3) := by decide +kernel
theorem dX5_cueOf_4 : decode cX5_cueOf 4 = .ok (.new 149, 3) := by decide +kernel
theorem dX5_cueOf_7 : decode cX5_cueOf 7 = .ok (.dup, 1) := by decide +kernel
theorem dX5_cueOf_8 : decode cX5_cueOf 8 = .ok (.ldc 174, 2) := by decide +kernel
theorem dX5_cueOf_10 : decode cX5_cueOf 10 = .ok (.invokespecial 153, 3) := by decide +kernel
theorem dX5_cueOf_13 : decode cX5_cueOf 13 = .ok (.athrow, 1) := by decide +kernel
theorem dX5_cueOf_14 : decode cX5_cueOf 14 = .ok (.iload_n 2, 1) := by decide +kernel
theorem dX5_cueOf_15 : decode cX5_cueOf 15 = .ok (.iconst 0, 1) := by decide +kernel
theorem dX5_cueOf_16 : decode cX5_cueOf 16 = .ok (.iconst 3, 1) := by decide +kernel
theorem dX5_cueOf_17 : decode cX5_cueOf 17 = .ok (.invokestatic 37, 3) := by decide +kernel
theorem dX5_cueOf_20 : decode cX5_cueOf 20 = .ok (.aload_n 0, 1) := by decide +kernel
theorem dX5_cueOf_21 : decode cX5_cueOf 21 = .ok (.getfield 10, 3) := by decide +kernel
theorem dX5_cueOf_24 : decode cX5_cueOf 24 = .ok (.getfield 103, 3) := by decide +kernel
theorem dX5_cueOf_27 : decode cX5_cueOf 27 = .ok (.iload_n 1, 1) := by decide +kernel
theorem dX5_cueOf_28 : decode cX5_cueOf 28 = .ok (.iload_n 2, 1) := by decide +kernel
theorem dX5_cueOf_29 : decode cX5_cueOf 29 = .ok (.invokevirtual 176, 3) := by decide +kernel
theorem dX5_cueOf_32 : decode cX5_cueOf 32 = .ok (.ireturn, 1) := by decide +kernel
set_option maxRecDepth 20000 in
theorem ggX5_count_X5_needWithin : GoodIn wsX5_count wsX5_needWithin := goodIn_ca (goodIn_r _ [17, 18, 19] (by decide +kernel) (by decide +kernel)) (goodIn_sub (fun _ h => List.mem_cons_of_mem _ (List.mem_append_right _ h)) (by decide +kernel))
set_option maxRecDepth 20000 in
theorem gX5_count_X5_needWithin : GoodIn wsX5_count (va_wsS RX5 37 yX5_needWithin wsX5_needWithin) := goodIn_app (goodIn_of _ (by decide +kernel)) ggX5_count_X5_needWithin
set_option maxRecDepth 20000 in
theorem ggX5_count_X2_lampsThatBurn : GoodIn wsX5_count wsX2_lampsThatBurn := goodIn_r _ [24, 25, 26, 27, 23, 28, 29, 30, 31, 32, 33, 34, 35, 36, 37, 38, 39, 40, 41, 42, 43, 44, 45, 46, 47, 48, 16, 49, 50, 51, 52, 53, 54, 55, 56, 57, 58, 59, 60, 61, 62, 83, 84, 85, 86, 87, 88, 89] (by decide +kernel) (by decide +kernel)
set_option maxRecDepth 20000 in
theorem gX5_count_X2_lampsThatBurn : GoodIn wsX5_count (wsV RX5 185 RX2 yX2_lampsThatBurn wsX2_lampsThatBurn) := goodIn_app (goodIn_of _ (by decide +kernel)) ggX5_count_X2_lampsThatBurn
theorem dX5_count_0 : decode cX5_count 0 = .ok (.iload_n 1, 1) := by decide +kernel
theorem dX5_count_1 : decode cX5_count 1 = .ok (.iconst 0, 1) := by decide +kernel
theorem dX5_count_2 : decode cX5_count 2 = .ok (.bipush 9, 2) := by decide +kernel
theorem dX5_count_4 : decode cX5_count 4 = .ok (.invokestatic 37, 3) := by decide +kernel
theorem dX5_count_7 : decode cX5_count 7 = .ok (.iload_n 1, 1) := by decide +kernel
theorem dX5_count_8 : decode cX5_count 8 = .ok (.tableswitch 133 0 8 #[52, 60, 71, 82, 90, 98, 106, 117, 125], 52) := by decide +kernel
theorem dX5_count_60 : decode cX5_count 60 = .ok (.aload_n 0, 1) := by decide +kernel
theorem dX5_count_61 : decode cX5_count 61 = .ok (.getfield 10, 3) := by decide +kernel
theorem dX5_count_64 : decode cX5_count 64 = .ok (.getfield 179, 3) := by decide +kernel
theorem dX5_count_67 : decode cX5_count 67 = .ok (.ireturn, 1) := by decide +kernel
theorem dX5_count_68 : decode cX5_count 68 = .ok (.aload_n 0, 1) := by decide +kernel
theorem dX5_count_69 : decode cX5_count 69 = .ok (.getfield 10, 3) := by decide +kernel
theorem dX5_count_72 : decode cX5_count 72 = .ok (.getfield 103, 3) := by decide +kernel
theorem dX5_count_75 : decode cX5_count 75 = .ok (.getfield 124, 3) := by decide +kernel
theorem dX5_count_78 : decode cX5_count 78 = .ok (.ireturn, 1) := by decide +kernel
theorem dX5_count_79 : decode cX5_count 79 = .ok (.aload_n 0, 1) := by decide +kernel
theorem dX5_count_80 : decode cX5_count 80 = .ok (.getfield 10, 3) := by decide +kernel
theorem dX5_count_83 : decode cX5_count 83 = .ok (.getfield 45, 3) := by decide +kernel
theorem dX5_count_86 : decode cX5_count 86 = .ok (.getfield 67, 3) := by decide +kernel
theorem dX5_count_89 : decode cX5_count 89 = .ok (.ireturn, 1) := by decide +kernel
theorem dX5_count_90 : decode cX5_count 90 = .ok (.aload_n 0, 1) := by decide +kernel
theorem dX5_count_91 : decode cX5_count 91 = .ok (.getfield 10, 3) := by decide +kernel
theorem dX5_count_94 : decode cX5_count 94 = .ok (.getfield 71, 3) := by decide +kernel
theorem dX5_count_97 : decode cX5_count 97 = .ok (.ireturn, 1) := by decide +kernel
theorem dX5_count_98 : decode cX5_count 98 = .ok (.aload_n 0, 1) := by decide +kernel
theorem dX5_count_99 : decode cX5_count 99 = .ok (.getfield 10, 3) := by decide +kernel
theorem dX5_count_102 : decode cX5_count 102 = .ok (.getfield 127, 3) := by decide +kernel
theorem dX5_count_105 : decode cX5_count 105 = .ok (.ireturn, 1) := by decide +kernel
theorem dX5_count_106 : decode cX5_count 106 = .ok (.aload_n 0, 1) := by decide +kernel
theorem dX5_count_107 : decode cX5_count 107 = .ok (.getfield 10, 3) := by decide +kernel
theorem dX5_count_110 : decode cX5_count 110 = .ok (.getfield 182, 3) := by decide +kernel
theorem dX5_count_113 : decode cX5_count 113 = .ok (.ireturn, 1) := by decide +kernel
theorem dX5_count_114 : decode cX5_count 114 = .ok (.aload_n 0, 1) := by decide +kernel
theorem dX5_count_115 : decode cX5_count 115 = .ok (.getfield 10, 3) := by decide +kernel
theorem dX5_count_118 : decode cX5_count 118 = .ok (.getfield 45, 3) := by decide +kernel
theorem dX5_count_121 : decode cX5_count 121 = .ok (.invokevirtual 185, 3) := by decide +kernel
theorem dX5_count_124 : decode cX5_count 124 = .ok (.ireturn, 1) := by decide +kernel
theorem dX5_count_125 : decode cX5_count 125 = .ok (.aload_n 0, 1) := by decide +kernel
theorem dX5_count_126 : decode cX5_count 126 = .ok (.getfield 10, 3) := by decide +kernel
theorem dX5_count_129 : decode cX5_count 129 = .ok (.getfield 188, 3) := by decide +kernel
theorem dX5_count_132 : decode cX5_count 132 = .ok (.ireturn, 1) := by decide +kernel
theorem dX5_count_133 : decode cX5_count 133 = .ok (.aload_n 0, 1) := by decide +kernel
theorem dX5_count_134 : decode cX5_count 134 = .ok (.getfield 10, 3) := by decide +kernel
theorem dX5_count_137 : decode cX5_count 137 = .ok (.getfield 191, 3) := by decide +kernel
theorem dX5_count_140 : decode cX5_count 140 = .ok (.ireturn, 1) := by decide +kernel
theorem dX5_count_141 : decode cX5_count 141 = .ok (.aload_n 0, 1) := by decide +kernel
theorem dX5_count_142 : decode cX5_count 142 = .ok (.getfield 22, 3) := by decide +kernel
theorem dX5_count_145 : decode cX5_count 145 = .ok (.getfield 158, 3) := by decide +kernel
theorem dX5_count_148 : decode cX5_count 148 = .ok (.ireturn, 1) := by decide +kernel
set_option maxRecDepth 20000 in
theorem ggX5_setting_X5_needSetting : GoodIn wsX5_setting wsX5_needSetting := goodIn_ca (goodIn_r _ [7, 8, 9] (by decide +kernel) (by decide +kernel)) (goodIn_sub (fun _ h => List.mem_cons_of_mem _ (List.mem_append_right _ h)) (by decide +kernel))
set_option maxRecDepth 20000 in
theorem gX5_setting_X5_needSetting : GoodIn wsX5_setting (va_wsS RX5 82 yX5_needSetting wsX5_needSetting) := goodIn_app (goodIn_of _ (by decide +kernel)) ggX5_setting_X5_needSetting
theorem dX5_setting_0 : decode cX5_setting 0 = .ok (.iload_n 1, 1) := by decide +kernel
theorem dX5_setting_1 : decode cX5_setting 1 = .ok (.invokestatic 82, 3) := by decide +kernel
theorem dX5_setting_4 : decode cX5_setting 4 = .ok (.aload_n 0, 1) := by decide +kernel
theorem dX5_setting_5 : decode cX5_setting 5 = .ok (.getfield 10, 3) := by decide +kernel
theorem dX5_setting_8 : decode cX5_setting 8 = .ok (.getfield 45, 3) := by decide +kernel
theorem dX5_setting_11 : decode cX5_setting 11 = .ok (.getfield 91, 3) := by decide +kernel
theorem dX5_setting_14 : decode cX5_setting 14 = .ok (.iload_n 1, 1) := by decide +kernel
theorem dX5_setting_15 : decode cX5_setting 15 = .ok (.iaload, 1) := by decide +kernel
theorem dX5_setting_16 : decode cX5_setting 16 = .ok (.ireturn, 1) := by decide +kernel
set_option maxRecDepth 20000 in
theorem ggX5_refusal_X5_needCue : GoodIn wsX5_refusal wsX5_needCue := goodIn_ca (goodIn_ca (goodIn_r _ [5, 6, 7, 4, 8, 9, 10, 11, 12, 13, 14, 15] (by decide +kernel) (by decide +kernel)) (goodIn_sub (fun _ h => List.mem_cons_of_mem _ (List.mem_append_left _ (List.mem_append_right _ h))) (by decide +kernel))) (goodIn_sub (fun _ h => List.mem_cons_of_mem _ (List.mem_append_right _ h)) (by decide +kernel))
set_option maxRecDepth 20000 in
theorem gX5_refusal_X5_needCue : GoodIn wsX5_refusal (va_wsS RX5 94 yX5_needCue wsX5_needCue) := goodIn_app (goodIn_of _ (by decide +kernel)) ggX5_refusal_X5_needCue
set_option maxRecDepth 20000 in
theorem ggX5_refusal_X4_reasonAgainst : GoodIn wsX5_refusal wsX4_reasonAgainst := goodIn_r _ [20, 21, 22, 23, 24, 25, 26, 27, 28, 29, 30, 31, 32, 33, 34, 35, 36, 37, 19, 38, 39, 40, 41, 42, 43, 44, 45, 46, 47, 52, 53, 54, 55, 56, 57, 58, 59, 60, 61, 62, 63, 64, 65, 66, 67, 68, 69, 70, 71, 72, 73, 74] (by decide +kernel) (by decide +kernel)
set_option maxRecDepth 20000 in
theorem gX5_refusal_X4_reasonAgainst : GoodIn wsX5_refusal (wsV RX5 97 RX4 yX4_reasonAgainst wsX4_reasonAgainst) := goodIn_app (goodIn_of _ (by decide +kernel)) ggX5_refusal_X4_reasonAgainst
theorem dX5_refusal_0 : decode cX5_refusal 0 = .ok (.iload_n 1, 1) := by decide +kernel
theorem dX5_refusal_1 : decode cX5_refusal 1 = .ok (.iload_n 2, 1) := by decide +kernel
theorem dX5_refusal_2 : decode cX5_refusal 2 = .ok (.iload_n 3, 1) := by decide +kernel
theorem dX5_refusal_3 : decode cX5_refusal 3 = .ok (.invokestatic 94, 3) := by decide +kernel
theorem dX5_refusal_6 : decode cX5_refusal 6 = .ok (.aload_n 0, 1) := by decide +kernel
theorem dX5_refusal_7 : decode cX5_refusal 7 = .ok (.getfield 10, 3) := by decide +kernel
theorem dX5_refusal_10 : decode cX5_refusal 10 = .ok (.iload_n 1, 1) := by decide +kernel
theorem dX5_refusal_11 : decode cX5_refusal 11 = .ok (.iload_n 2, 1) := by decide +kernel
theorem dX5_refusal_12 : decode cX5_refusal 12 = .ok (.iload_n 3, 1) := by decide +kernel
theorem dX5_refusal_13 : decode cX5_refusal 13 = .ok (.invokevirtual 97, 3) := by decide +kernel
theorem dX5_refusal_16 : decode cX5_refusal 16 = .ok (.ireturn, 1) := by decide +kernel
set_option maxRecDepth 20000 in
theorem ggX5_ifPlayed_X5_needWithin : GoodIn wsX5_ifPlayed wsX5_needWithin := goodIn_ca (goodIn_r _ [9, 10, 11] (by decide +kernel) (by decide +kernel)) (goodIn_sub (fun _ h => List.mem_cons_of_mem _ (List.mem_append_right _ h)) (by decide +kernel))
set_option maxRecDepth 20000 in
theorem gX5_ifPlayed_X5_needWithin : GoodIn wsX5_ifPlayed (va_wsS RX5 37 yX5_needWithin wsX5_needWithin) := goodIn_app (goodIn_of _ (by decide +kernel)) ggX5_ifPlayed_X5_needWithin
set_option maxRecDepth 20000 in
theorem ggX5_ifPlayed_X4_copyFrom : GoodIn wsX5_ifPlayed wsX4_copyFrom := goodIn_r _ [16, 17, 18, 19, 20, 21, 22, 23, 24, 25, 26, 27, 28, 29, 30, 31, 32, 33, 34, 35, 36, 37, 38, 8, 39, 40, 41, 42, 43, 44, 45, 46, 47, 48, 49, 50, 132, 133, 134, 135, 136, 137, 138, 139, 140, 141, 142, 143, 144, 145, 146, 147, 148, 149, 150, 151, 152, 153, 154] (by decide +kernel) (by decide +kernel)
set_option maxRecDepth 20000 in
theorem gX5_ifPlayed_X4_copyFrom : GoodIn wsX5_ifPlayed (wsV RX5 194 RX4 yX4_copyFrom wsX4_copyFrom) := goodIn_app (goodIn_of _ (by decide +kernel)) ggX5_ifPlayed_X4_copyFrom
set_option maxRecDepth 20000 in
theorem ggX5_ifPlayed_X4_countAnew : GoodIn wsX5_ifPlayed wsX4_countAnew := goodIn_r _ [54, 22, 23, 25, 19, 132, 133, 134, 135, 136, 137, 138, 139, 140, 141] (by decide +kernel) (by decide +kernel)
set_option maxRecDepth 20000 in
theorem gX5_ifPlayed_X4_countAnew : GoodIn wsX5_ifPlayed (wsV RX5 197 RX4 yX4_countAnew wsX4_countAnew) := goodIn_app (goodIn_of _ (by decide +kernel)) ggX5_ifPlayed_X4_countAnew
set_option maxRecDepth 20000 in
theorem ggX5_ifPlayed_X4_playTicks : GoodIn wsX5_ifPlayed wsX4_playTicks := goodIn_r _ [58, 17, 21, 59, 60, 61, 15, 62, 18, 63, 64, 65, 66, 67, 24, 68, 69, 70, 43, 71, 49, 72, 73, 74, 75, 45, 46, 47, 48, 76, 77, 78, 29, 79, 36, 34, 33, 80, 81, 82, 83, 84, 85, 86, 87, 88, 89, 90, 20, 23, 22, 91, 25, 92, 19, 93, 94, 95, 96, 97, 98, 99, 100, 101, 102, 103, 104, 31, 105, 106, 107, 108, 35, 109, 8, 110, 111, 112, 113, 114, 37, 115, 116, 117, 118, 119, 120, 121, 122, 132, 133, 134, 135, 136, 137, 138, 139, 140, 141, 149, 150, 151, 152, 153, 154, 142, 143, 144, 145, 146, 147, 148] (by decide +kernel) (by decide +kernel)
set_option maxRecDepth 20000 in
theorem gX5_ifPlayed_X4_playTicks : GoodIn wsX5_ifPlayed (wsV RX5 130 RX4 yX4_playTicks wsX4_playTicks) := goodIn_app (goodIn_of _ (by decide +kernel)) ggX5_ifPlayed_X4_playTicks
set_option maxRecDepth 20000 in
theorem ggX5_ifPlayed_X4_lampTicksOfColour : GoodIn wsX5_ifPlayed wsX4_lampTicksOfColour := goodIn_r _ [126, 17, 127, 19, 132, 133, 134, 135, 136, 137, 138, 139, 140, 141, 142, 143, 144, 145, 146, 147, 148] (by decide +kernel) (by decide +kernel)
set_option maxRecDepth 20000 in
theorem gX5_ifPlayed_X4_lampTicksOfColour : GoodIn wsX5_ifPlayed (wsV RX5 200 RX4 yX4_lampTicksOfColour wsX4_lampTicksOfColour) := goodIn_app (goodIn_of _ (by decide +kernel)) ggX5_ifPlayed_X4_lampTicksOfColour
theorem dX5_ifPlayed_0 : decode cX5_ifPlayed 0 = .ok (.iload_n 1, 1) := by decide +kernel
theorem dX5_ifPlayed_1 : decode cX5_ifPlayed 1 = .ok (.iconst 1, 1) := by decide +kernel
theorem dX5_ifPlayed_2 : decode cX5_ifPlayed 2 = .ok (.bipush 100, 2) := by decide +kernel
theorem dX5_ifPlayed_4 : decode cX5_ifPlayed 4 = .ok (.invokestatic 37, 3) := by decide +kernel
theorem dX5_ifPlayed_7 : decode cX5_ifPlayed 7 = .ok (.iload_n 2, 1) := by decide +kernel
theorem dX5_ifPlayed_8 : decode cX5_ifPlayed 8 = .ok (.iconst 0, 1) := by decide +kernel
theorem dX5_ifPlayed_9 : decode cX5_ifPlayed 9 = .ok (.iconst 3, 1) := by decide +kernel
theorem dX5_ifPlayed_10 : decode cX5_ifPlayed 10 = .ok (.invokestatic 37, 3) := by decide +kernel
theorem dX5_ifPlayed_13 : decode cX5_ifPlayed 13 = .ok (.aload_n 0, 1) := by decide +kernel
theorem dX5_ifPlayed_14 : decode cX5_ifPlayed 14 = .ok (.getfield 16, 3) := by decide +kernel
theorem dX5_ifPlayed_17 : decode cX5_ifPlayed 17 = .ok (.aload_n 0, 1) := by decide +kernel
theorem dX5_ifPlayed_18 : decode cX5_ifPlayed 18 = .ok (.getfield 10, 3) := by decide +kernel
theorem dX5_ifPlayed_21 : decode cX5_ifPlayed 21 = .ok (.invokevirtual 194, 3) := by decide +kernel
theorem dX5_ifPlayed_24 : decode cX5_ifPlayed 24 = .ok (.aload_n 0, 1) := by decide +kernel
theorem dX5_ifPlayed_25 : decode cX5_ifPlayed 25 = .ok (.getfield 16, 3) := by decide +kernel
theorem dX5_ifPlayed_28 : decode cX5_ifPlayed 28 = .ok (.invokevirtual 197, 3) := by decide +kernel
theorem dX5_ifPlayed_31 : decode cX5_ifPlayed 31 = .ok (.aload_n 0, 1) := by decide +kernel
theorem dX5_ifPlayed_32 : decode cX5_ifPlayed 32 = .ok (.getfield 16, 3) := by decide +kernel
theorem dX5_ifPlayed_35 : decode cX5_ifPlayed 35 = .ok (.iload_n 1, 1) := by decide +kernel
theorem dX5_ifPlayed_36 : decode cX5_ifPlayed 36 = .ok (.invokevirtual 130, 3) := by decide +kernel
theorem dX5_ifPlayed_39 : decode cX5_ifPlayed 39 = .ok (.iload_n 2, 1) := by decide +kernel
theorem dX5_ifPlayed_40 : decode cX5_ifPlayed 40 = .ok (.tableswitch 52 0 2 #[28, 36, 44], 28) := by decide +kernel
theorem dX5_ifPlayed_68 : decode cX5_ifPlayed 68 = .ok (.aload_n 0, 1) := by decide +kernel
theorem dX5_ifPlayed_69 : decode cX5_ifPlayed 69 = .ok (.getfield 16, 3) := by decide +kernel
theorem dX5_ifPlayed_72 : decode cX5_ifPlayed 72 = .ok (.getfield 127, 3) := by decide +kernel
theorem dX5_ifPlayed_75 : decode cX5_ifPlayed 75 = .ok (.ireturn, 1) := by decide +kernel
theorem dX5_ifPlayed_76 : decode cX5_ifPlayed 76 = .ok (.aload_n 0, 1) := by decide +kernel
theorem dX5_ifPlayed_77 : decode cX5_ifPlayed 77 = .ok (.getfield 16, 3) := by decide +kernel
theorem dX5_ifPlayed_80 : decode cX5_ifPlayed 80 = .ok (.getfield 182, 3) := by decide +kernel
theorem dX5_ifPlayed_83 : decode cX5_ifPlayed 83 = .ok (.ireturn, 1) := by decide +kernel
theorem dX5_ifPlayed_84 : decode cX5_ifPlayed 84 = .ok (.aload_n 0, 1) := by decide +kernel
theorem dX5_ifPlayed_85 : decode cX5_ifPlayed 85 = .ok (.getfield 16, 3) := by decide +kernel
theorem dX5_ifPlayed_88 : decode cX5_ifPlayed 88 = .ok (.getfield 191, 3) := by decide +kernel
theorem dX5_ifPlayed_91 : decode cX5_ifPlayed 91 = .ok (.ireturn, 1) := by decide +kernel
theorem dX5_ifPlayed_92 : decode cX5_ifPlayed 92 = .ok (.aload_n 0, 1) := by decide +kernel
theorem dX5_ifPlayed_93 : decode cX5_ifPlayed 93 = .ok (.getfield 16, 3) := by decide +kernel
theorem dX5_ifPlayed_96 : decode cX5_ifPlayed 96 = .ok (.iconst 0, 1) := by decide +kernel
theorem dX5_ifPlayed_97 : decode cX5_ifPlayed 97 = .ok (.invokevirtual 200, 3) := by decide +kernel
theorem dX5_ifPlayed_100 : decode cX5_ifPlayed 100 = .ok (.ireturn, 1) := by decide +kernel
set_option maxRecDepth 20000 in
theorem ggX5_mostAim_X5_needCue : GoodIn wsX5_mostAim wsX5_needCue := goodIn_ca (goodIn_ca (goodIn_r _ [5, 6, 7, 4, 8, 9, 10, 11, 12, 13, 14, 15] (by decide +kernel) (by decide +kernel)) (goodIn_sub (fun _ h => List.mem_cons_of_mem _ (List.mem_append_left _ (List.mem_append_right _ h))) (by decide +kernel))) (goodIn_sub (fun _ h => List.mem_cons_of_mem _ (List.mem_append_right _ h)) (by decide +kernel))
set_option maxRecDepth 20000 in
theorem gX5_mostAim_X5_needCue : GoodIn wsX5_mostAim (va_wsS RX5 94 yX5_needCue wsX5_needCue) := goodIn_app (goodIn_of _ (by decide +kernel)) ggX5_mostAim_X5_needCue
set_option maxRecDepth 20000 in
theorem ggX5_mostAim_X4_reasonAgainst : GoodIn wsX5_mostAim wsX4_reasonAgainst := goodIn_r _ [20, 21, 22, 23, 24, 25, 26, 27, 28, 29, 30, 31, 32, 33, 34, 35, 36, 37, 19, 38, 39, 40, 41, 42, 43, 44, 45, 46, 47, 52, 53, 54, 55, 56, 57, 58, 59, 60, 61, 62, 63, 64, 65, 66, 67, 68, 69, 70, 71, 72, 73, 74] (by decide +kernel) (by decide +kernel)
set_option maxRecDepth 20000 in
theorem gX5_mostAim_X4_reasonAgainst : GoodIn wsX5_mostAim (wsV RX5 97 RX4 yX4_reasonAgainst wsX4_reasonAgainst) := goodIn_app (goodIn_of _ (by decide +kernel)) ggX5_mostAim_X4_reasonAgainst
theorem dX5_mostAim_0 : decode cX5_mostAim 0 = .ok (.iload_n 1, 1) := by decide +kernel
theorem dX5_mostAim_1 : decode cX5_mostAim 1 = .ok (.iload_n 2, 1) := by decide +kernel
theorem dX5_mostAim_2 : decode cX5_mostAim 2 = .ok (.iconst 0, 1) := by decide +kernel
theorem dX5_mostAim_3 : decode cX5_mostAim 3 = .ok (.invokestatic 94, 3) := by decide +kernel
theorem dX5_mostAim_6 : decode cX5_mostAim 6 = .ok (.bipush 10, 2) := by decide +kernel
theorem dX5_mostAim_8 : decode cX5_mostAim 8 = .ok (.istore_n 3, 1) := by decide +kernel
theorem dX5_mostAim_9 : decode cX5_mostAim 9 = .ok (.iload_n 3, 1) := by decide +kernel
theorem dX5_mostAim_10 : decode cX5_mostAim 10 = .ok (.ifCond .lt 24, 3) := by decide +kernel
theorem dX5_mostAim_13 : decode cX5_mostAim 13 = .ok (.aload_n 0, 1) := by decide +kernel
theorem dX5_mostAim_14 : decode cX5_mostAim 14 = .ok (.getfield 10, 3) := by decide +kernel
theorem dX5_mostAim_17 : decode cX5_mostAim 17 = .ok (.iload_n 1, 1) := by decide +kernel
theorem dX5_mostAim_18 : decode cX5_mostAim 18 = .ok (.iload_n 2, 1) := by decide +kernel
theorem dX5_mostAim_19 : decode cX5_mostAim 19 = .ok (.iload_n 3, 1) := by decide +kernel
theorem dX5_mostAim_20 : decode cX5_mostAim 20 = .ok (.invokevirtual 97, 3) := by decide +kernel
theorem dX5_mostAim_23 : decode cX5_mostAim 23 = .ok (.ifCond .ne 5, 3) := by decide +kernel
theorem dX5_mostAim_26 : decode cX5_mostAim 26 = .ok (.iload_n 3, 1) := by decide +kernel
theorem dX5_mostAim_27 : decode cX5_mostAim 27 = .ok (.ireturn, 1) := by decide +kernel
theorem dX5_mostAim_28 : decode cX5_mostAim 28 = .ok (.iinc 3 (-1), 3) := by decide +kernel
theorem dX5_mostAim_31 : decode cX5_mostAim 31 = .ok (.goto (-22), 3) := by decide +kernel
theorem dX5_mostAim_34 : decode cX5_mostAim 34 = .ok (.iconst (-1), 1) := by decide +kernel
theorem dX5_mostAim_35 : decode cX5_mostAim 35 = .ok (.ireturn, 1) := by decide +kernel
set_option maxRecDepth 20000 in
theorem ggX5_fits_X5_needCue : GoodIn wsX5_fits wsX5_needCue := goodIn_ca (goodIn_ca (goodIn_r _ [11, 12, 13, 10, 14, 15, 16, 17, 18, 19, 20, 21] (by decide +kernel) (by decide +kernel)) (goodIn_sub (fun _ h => List.mem_cons_of_mem _ (List.mem_append_left _ (List.mem_append_right _ h))) (by decide +kernel))) (goodIn_sub (fun _ h => List.mem_cons_of_mem _ (List.mem_append_right _ h)) (by decide +kernel))
set_option maxRecDepth 20000 in
theorem gX5_fits_X5_needCue : GoodIn wsX5_fits (va_wsS RX5 94 yX5_needCue wsX5_needCue) := goodIn_app (goodIn_of _ (by decide +kernel)) ggX5_fits_X5_needCue
set_option maxRecDepth 20000 in
theorem ggX5_fits_X4_reasonAgainst : GoodIn wsX5_fits wsX4_reasonAgainst := goodIn_r _ [26, 27, 28, 29, 30, 31, 32, 33, 34, 35, 36, 37, 38, 39, 40, 41, 42, 43, 25, 44, 45, 46, 47, 48, 49, 50, 51, 52, 53, 62, 63, 64, 65, 66, 67, 68, 69, 70, 71, 72, 73, 74, 75, 76, 77, 78, 79, 80, 81, 82, 83, 84] (by decide +kernel) (by decide +kernel)
set_option maxRecDepth 20000 in
theorem gX5_fits_X4_reasonAgainst : GoodIn wsX5_fits (wsV RX5 97 RX4 yX4_reasonAgainst wsX4_reasonAgainst) := goodIn_app (goodIn_of _ (by decide +kernel)) ggX5_fits_X4_reasonAgainst
set_option maxRecDepth 20000 in
theorem ggX5_fits_X1_nextChangeBehind : GoodIn wsX5_fits wsX1_nextChangeBehind := goodIn_r _ [57, 34, 39, 72, 73, 74, 75, 76, 77] (by decide +kernel) (by decide +kernel)
set_option maxRecDepth 20000 in
theorem gX5_fits_X1_nextChangeBehind : GoodIn wsX5_fits (wsV RX5 208 RX1 yX1_nextChangeBehind wsX1_nextChangeBehind) := goodIn_app (goodIn_of _ (by decide +kernel)) ggX5_fits_X1_nextChangeBehind
theorem dX5_fits_0 : decode cX5_fits 0 = .ok (.iload_n 1, 1) := by decide +kernel
theorem dX5_fits_1 : decode cX5_fits 1 = .ok (.iload_n 2, 1) := by decide +kernel
theorem dX5_fits_2 : decode cX5_fits 2 = .ok (.iload_n 3, 1) := by decide +kernel
theorem dX5_fits_3 : decode cX5_fits 3 = .ok (.invokestatic 94, 3) := by decide +kernel
theorem dX5_fits_6 : decode cX5_fits 6 = .ok (.iload_n 1, 1) := by decide +kernel
theorem dX5_fits_7 : decode cX5_fits 7 = .ok (.aload_n 0, 1) := by decide +kernel
theorem dX5_fits_8 : decode cX5_fits 8 = .ok (.getfield 10, 3) := by decide +kernel
theorem dX5_fits_11 : decode cX5_fits 11 = .ok (.getfield 179, 3) := by decide +kernel
theorem dX5_fits_14 : decode cX5_fits 14 = .ok (.invokestatic 203, 3) := by decide +kernel
theorem dX5_fits_17 : decode cX5_fits 17 = .ok (.istore 4, 2) := by decide +kernel
theorem dX5_fits_19 : decode cX5_fits 19 = .ok (.iconst 0, 1) := by decide +kernel
theorem dX5_fits_20 : decode cX5_fits 20 = .ok (.istore 5, 2) := by decide +kernel
theorem dX5_fits_22 : decode cX5_fits 22 = .ok (.iload 5, 2) := by decide +kernel
theorem dX5_fits_24 : decode cX5_fits 24 = .ok (.sipush 999, 3) := by decide +kernel
theorem dX5_fits_27 : decode cX5_fits 27 = .ok (.if_icmp .gt 48, 3) := by decide +kernel
theorem dX5_fits_30 : decode cX5_fits 30 = .ok (.iload 4, 2) := by decide +kernel
theorem dX5_fits_32 : decode cX5_fits 32 = .ok (.sipush 999, 3) := by decide +kernel
theorem dX5_fits_35 : decode cX5_fits 35 = .ok (.if_icmp .gt 40, 3) := by decide +kernel
theorem dX5_fits_38 : decode cX5_fits 38 = .ok (.aload_n 0, 1) := by decide +kernel
theorem dX5_fits_39 : decode cX5_fits 39 = .ok (.getfield 10, 3) := by decide +kernel
theorem dX5_fits_42 : decode cX5_fits 42 = .ok (.iload 4, 2) := by decide +kernel
theorem dX5_fits_44 : decode cX5_fits 44 = .ok (.iload_n 2, 1) := by decide +kernel
theorem dX5_fits_45 : decode cX5_fits 45 = .ok (.iload_n 3, 1) := by decide +kernel
theorem dX5_fits_46 : decode cX5_fits 46 = .ok (.invokevirtual 97, 3) := by decide +kernel
theorem dX5_fits_49 : decode cX5_fits 49 = .ok (.ifCond .ne 6, 3) := by decide +kernel
theorem dX5_fits_52 : decode cX5_fits 52 = .ok (.iload 4, 2) := by decide +kernel
theorem dX5_fits_54 : decode cX5_fits 54 = .ok (.ireturn, 1) := by decide +kernel
theorem dX5_fits_55 : decode cX5_fits 55 = .ok (.aload_n 0, 1) := by decide +kernel
theorem dX5_fits_56 : decode cX5_fits 56 = .ok (.getfield 10, 3) := by decide +kernel
theorem dX5_fits_59 : decode cX5_fits 59 = .ok (.getfield 103, 3) := by decide +kernel
theorem dX5_fits_62 : decode cX5_fits 62 = .ok (.iload 4, 2) := by decide +kernel
theorem dX5_fits_64 : decode cX5_fits 64 = .ok (.invokevirtual 208, 3) := by decide +kernel
theorem dX5_fits_67 : decode cX5_fits 67 = .ok (.istore 4, 2) := by decide +kernel
theorem dX5_fits_69 : decode cX5_fits 69 = .ok (.iinc 5 1, 3) := by decide +kernel
theorem dX5_fits_72 : decode cX5_fits 72 = .ok (.goto (-50), 3) := by decide +kernel
theorem dX5_fits_75 : decode cX5_fits 75 = .ok (.iconst (-1), 1) := by decide +kernel
theorem dX5_fits_76 : decode cX5_fits 76 = .ok (.ireturn, 1) := by decide +kernel
set_option maxRecDepth 20000 in
theorem ggX5_dryIn_X4_copyFrom : GoodIn wsX5_dryIn wsX4_copyFrom := goodIn_r _ [8, 9, 10, 11, 12, 13, 14, 15, 16, 17, 18, 19, 20, 21, 22, 23, 24, 25, 26, 27, 28, 29, 30, 31, 32, 33, 34, 35, 36, 37, 38, 39, 40, 41, 42, 43, 120, 121, 122, 123, 124, 125, 126, 127, 128, 129, 130, 131, 132, 133, 134, 135, 136, 137, 138, 139, 140, 141, 142] (by decide +kernel) (by decide +kernel)
set_option maxRecDepth 20000 in
theorem gX5_dryIn_X4_copyFrom : GoodIn wsX5_dryIn (wsV RX5 194 RX4 yX4_copyFrom wsX4_copyFrom) := goodIn_app (goodIn_of _ (by decide +kernel)) ggX5_dryIn_X4_copyFrom
set_option maxRecDepth 20000 in
theorem ggX5_dryIn_X4_countAnew : GoodIn wsX5_dryIn wsX4_countAnew := goodIn_r _ [47, 14, 15, 17, 11, 120, 121, 122, 123, 124, 125, 126, 127, 128, 129] (by decide +kernel) (by decide +kernel)
set_option maxRecDepth 20000 in
theorem gX5_dryIn_X4_countAnew : GoodIn wsX5_dryIn (wsV RX5 197 RX4 yX4_countAnew wsX4_countAnew) := goodIn_app (goodIn_of _ (by decide +kernel)) ggX5_dryIn_X4_countAnew
set_option maxRecDepth 20000 in
theorem ggX5_dryIn_X4_playTicks : GoodIn wsX5_dryIn wsX4_playTicks := goodIn_r _ [51, 9, 13, 52, 53, 54, 7, 55, 10, 56, 57, 58, 59, 60, 16, 61, 62, 63, 36, 64, 42, 65, 66, 67, 68, 38, 39, 40, 41, 69, 70, 71, 21, 72, 28, 26, 25, 73, 74, 75, 76, 77, 78, 79, 80, 81, 82, 83, 12, 15, 14, 84, 17, 85, 11, 86, 87, 88, 89, 90, 91, 92, 93, 94, 95, 96, 97, 23, 98, 99, 100, 101, 27, 102, 31, 103, 104, 105, 106, 107, 29, 108, 109, 110, 111, 112, 113, 114, 115, 120, 121, 122, 123, 124, 125, 126, 127, 128, 129, 137, 138, 139, 140, 141, 142, 130, 131, 132, 133, 134, 135, 136] (by decide +kernel) (by decide +kernel)
set_option maxRecDepth 20000 in
theorem gX5_dryIn_X4_playTicks : GoodIn wsX5_dryIn (wsV RX5 130 RX4 yX4_playTicks wsX4_playTicks) := goodIn_app (goodIn_of _ (by decide +kernel)) ggX5_dryIn_X4_playTicks
theorem dX5_dryIn_0 : decode cX5_dryIn 0 = .ok (.aload_n 0, 1) := by decide +kernel
theorem dX5_dryIn_1 : decode cX5_dryIn 1 = .ok (.getfield 16, 3) := by decide +kernel
theorem dX5_dryIn_4 : decode cX5_dryIn 4 = .ok (.aload_n 0, 1) := by decide +kernel
theorem dX5_dryIn_5 : decode cX5_dryIn 5 = .ok (.getfield 10, 3) := by decide +kernel
theorem dX5_dryIn_8 : decode cX5_dryIn 8 = .ok (.invokevirtual 194, 3) := by decide +kernel
theorem dX5_dryIn_11 : decode cX5_dryIn 11 = .ok (.aload_n 0, 1) := by decide +kernel
theorem dX5_dryIn_12 : decode cX5_dryIn 12 = .ok (.getfield 16, 3) := by decide +kernel
theorem dX5_dryIn_15 : decode cX5_dryIn 15 = .ok (.invokevirtual 197, 3) := by decide +kernel
theorem dX5_dryIn_18 : decode cX5_dryIn 18 = .ok (.iconst 1, 1) := by decide +kernel
theorem dX5_dryIn_19 : decode cX5_dryIn 19 = .ok (.istore_n 1, 1) := by decide +kernel
theorem dX5_dryIn_20 : decode cX5_dryIn 20 = .ok (.iload_n 1, 1) := by decide +kernel
theorem dX5_dryIn_21 : decode cX5_dryIn 21 = .ok (.sipush 500, 3) := by decide +kernel
theorem dX5_dryIn_24 : decode cX5_dryIn 24 = .ok (.if_icmp .gt 29, 3) := by decide +kernel
theorem dX5_dryIn_27 : decode cX5_dryIn 27 = .ok (.aload_n 0, 1) := by decide +kernel
theorem dX5_dryIn_28 : decode cX5_dryIn 28 = .ok (.getfield 16, 3) := by decide +kernel
theorem dX5_dryIn_31 : decode cX5_dryIn 31 = .ok (.iconst 1, 1) := by decide +kernel
theorem dX5_dryIn_32 : decode cX5_dryIn 32 = .ok (.invokevirtual 130, 3) := by decide +kernel
theorem dX5_dryIn_35 : decode cX5_dryIn 35 = .ok (.aload_n 0, 1) := by decide +kernel
theorem dX5_dryIn_36 : decode cX5_dryIn 36 = .ok (.getfield 16, 3) := by decide +kernel
theorem dX5_dryIn_39 : decode cX5_dryIn 39 = .ok (.getfield 182, 3) := by decide +kernel
theorem dX5_dryIn_42 : decode cX5_dryIn 42 = .ok (.ifCond .le 5, 3) := by decide +kernel
theorem dX5_dryIn_45 : decode cX5_dryIn 45 = .ok (.iload_n 1, 1) := by decide +kernel
theorem dX5_dryIn_46 : decode cX5_dryIn 46 = .ok (.ireturn, 1) := by decide +kernel
theorem dX5_dryIn_47 : decode cX5_dryIn 47 = .ok (.iinc 1 1, 3) := by decide +kernel
theorem dX5_dryIn_50 : decode cX5_dryIn 50 = .ok (.goto (-30), 3) := by decide +kernel
theorem dX5_dryIn_53 : decode cX5_dryIn 53 = .ok (.iconst (-1), 1) := by decide +kernel
theorem dX5_dryIn_54 : decode cX5_dryIn 54 = .ok (.ireturn, 1) := by decide +kernel
set_option maxRecDepth 20000 in
theorem ggX5_share_X2_pumpAsks : GoodIn wsX5_share wsX2_pumpAsks := goodIn_r _ [7, 8, 9, 10, 6, 11, 12, 13, 54, 55, 56, 57, 58, 59, 60] (by decide +kernel) (by decide +kernel)
set_option maxRecDepth 20000 in
theorem gX5_share_X2_pumpAsks : GoodIn wsX5_share (wsV RX5 168 RX2 yX2_pumpAsks wsX2_pumpAsks) := goodIn_app (goodIn_of _ (by decide +kernel)) ggX5_share_X2_pumpAsks
set_option maxRecDepth 20000 in
theorem ggX5_share_X2_pumpGives : GoodIn wsX5_share wsX2_pumpGives := goodIn_r _ [17, 18, 4, 5, 6, 7, 8, 9, 10, 11, 12, 13, 19, 20, 21, 22, 23, 24, 25, 26, 27, 28, 29, 30, 31, 32, 33, 34, 35, 36, 37, 38, 39, 54, 55, 56, 57, 58, 59, 60] (by decide +kernel) (by decide +kernel)
set_option maxRecDepth 20000 in
theorem gX5_share_X2_pumpGives : GoodIn wsX5_share (wsV RX5 171 RX2 yX2_pumpGives wsX2_pumpGives) := goodIn_app (goodIn_of _ (by decide +kernel)) ggX5_share_X2_pumpGives
theorem dX5_share_0 : decode cX5_share 0 = .ok (.iconst 0, 1) := by decide +kernel
theorem dX5_share_1 : decode cX5_share 1 = .ok (.istore_n 1, 1) := by decide +kernel
theorem dX5_share_2 : decode cX5_share 2 = .ok (.iconst 0, 1) := by decide +kernel
theorem dX5_share_3 : decode cX5_share 3 = .ok (.istore_n 2, 1) := by decide +kernel
theorem dX5_share_4 : decode cX5_share 4 = .ok (.iconst 0, 1) := by decide +kernel
theorem dX5_share_5 : decode cX5_share 5 = .ok (.istore_n 3, 1) := by decide +kernel
theorem dX5_share_6 : decode cX5_share 6 = .ok (.iload_n 3, 1) := by decide +kernel
theorem dX5_share_7 : decode cX5_share 7 = .ok (.iconst 2, 1) := by decide +kernel
theorem dX5_share_8 : decode cX5_share 8 = .ok (.if_icmp .ge 37, 3) := by decide +kernel
theorem dX5_share_11 : decode cX5_share 11 = .ok (.iload_n 1, 1) := by decide +kernel
theorem dX5_share_12 : decode cX5_share 12 = .ok (.aload_n 0, 1) := by decide +kernel
theorem dX5_share_13 : decode cX5_share 13 = .ok (.getfield 10, 3) := by decide +kernel
theorem dX5_share_16 : decode cX5_share 16 = .ok (.getfield 45, 3) := by decide +kernel
theorem dX5_share_19 : decode cX5_share 19 = .ok (.iload_n 3, 1) := by decide +kernel
theorem dX5_share_20 : decode cX5_share 20 = .ok (.invokevirtual 168, 3) := by decide +kernel
theorem dX5_share_23 : decode cX5_share 23 = .ok (.iadd, 1) := by decide +kernel
theorem dX5_share_24 : decode cX5_share 24 = .ok (.istore_n 1, 1) := by decide +kernel
theorem dX5_share_25 : decode cX5_share 25 = .ok (.iload_n 2, 1) := by decide +kernel
theorem dX5_share_26 : decode cX5_share 26 = .ok (.aload_n 0, 1) := by decide +kernel
theorem dX5_share_27 : decode cX5_share 27 = .ok (.getfield 10, 3) := by decide +kernel
theorem dX5_share_30 : decode cX5_share 30 = .ok (.getfield 45, 3) := by decide +kernel
theorem dX5_share_33 : decode cX5_share 33 = .ok (.iload_n 3, 1) := by decide +kernel
theorem dX5_share_34 : decode cX5_share 34 = .ok (.invokevirtual 171, 3) := by decide +kernel
theorem dX5_share_37 : decode cX5_share 37 = .ok (.iadd, 1) := by decide +kernel
theorem dX5_share_38 : decode cX5_share 38 = .ok (.istore_n 2, 1) := by decide +kernel
theorem dX5_share_39 : decode cX5_share 39 = .ok (.iinc 3 1, 3) := by decide +kernel
theorem dX5_share_42 : decode cX5_share 42 = .ok (.goto (-36), 3) := by decide +kernel
theorem dX5_share_45 : decode cX5_share 45 = .ok (.iload_n 1, 1) := by decide +kernel
theorem dX5_share_46 : decode cX5_share 46 = .ok (.ifCond .le 11, 3) := by decide +kernel
theorem dX5_share_49 : decode cX5_share 49 = .ok (.iload_n 2, 1) := by decide +kernel
theorem dX5_share_50 : decode cX5_share 50 = .ok (.i2d, 1) := by decide +kernel
theorem dX5_share_51 : decode cX5_share 51 = .ok (.iload_n 1, 1) := by decide +kernel
theorem dX5_share_52 : decode cX5_share 52 = .ok (.i2d, 1) := by decide +kernel
theorem dX5_share_53 : decode cX5_share 53 = .ok (.ddiv, 1) := by decide +kernel
theorem dX5_share_54 : decode cX5_share 54 = .ok (.goto 4, 3) := by decide +kernel
theorem dX5_share_57 : decode cX5_share 57 = .ok (.dconst 1, 1) := by decide +kernel
theorem dX5_share_58 : decode cX5_share 58 = .ok (.dreturn, 1) := by decide +kernel
set_option maxRecDepth 20000 in
theorem ggX5_digest_X5_count : GoodIn wsX5_digest wsX5_count := goodIn_ca (goodIn_r _ [9, 10, 11, 12, 13, 14, 15, 16, 17, 18, 19, 20, 21, 22, 23, 24, 8, 25, 26, 27, 28, 29, 30, 31, 32, 33, 34, 35, 36, 37, 38, 39, 40, 41, 42, 43, 44, 45, 46, 47, 48, 49, 50, 51, 52, 53, 54, 55, 56, 57, 58, 59, 60, 61, 62, 63, 64, 65, 66, 67, 68, 69, 70, 269, 270, 271, 272, 275, 276, 277, 278, 279, 280, 281, 282, 283, 284, 285, 286, 287, 288, 289, 290, 291, 292, 293, 294, 295, 296, 297, 298, 299] (by decide +kernel) (by decide +kernel)) (goodIn_sub (fun _ h => List.mem_cons_of_mem _ (List.mem_append_left _ (List.mem_append_right _ h))) (by decide +kernel))
set_option maxRecDepth 20000 in
theorem gX5_digest_X5_count : GoodIn wsX5_digest (wsV RX5 213 RX5 yX5_count wsX5_count) := goodIn_app (goodIn_of _ (by decide +kernel)) ggX5_digest_X5_count
set_option maxRecDepth 20000 in
theorem ggX5_digest_X5_mixed : GoodIn wsX5_digest wsX5_mixed := goodIn_r _ [73, 74] (by decide +kernel) (by decide +kernel)
set_option maxRecDepth 20000 in
theorem gX5_digest_X5_mixed : GoodIn wsX5_digest (va_wsS RX5 216 yX5_mixed wsX5_mixed) := goodIn_app (goodIn_of _ (by decide +kernel)) ggX5_digest_X5_mixed
set_option maxRecDepth 20000 in
theorem ggX5_digest_X5_setting : GoodIn wsX5_digest wsX5_setting := goodIn_ca (goodIn_r _ [78, 10, 14, 79, 80, 81, 8, 82, 83, 84, 269, 270, 271, 272, 275, 276, 277, 278, 279, 280, 281, 282, 283, 284, 291, 292, 293, 294, 295, 296, 297] (by decide +kernel) (by decide +kernel)) (goodIn_sub (fun _ h => List.mem_cons_of_mem _ (List.mem_append_right _ h)) (by decide +kernel))
set_option maxRecDepth 20000 in
theorem gX5_digest_X5_setting : GoodIn wsX5_digest (wsV RX5 220 RX5 yX5_setting wsX5_setting) := goodIn_app (goodIn_of _ (by decide +kernel)) ggX5_digest_X5_setting
set_option maxRecDepth 20000 in
theorem ggX5_digest_X5_mixedWithJetsAndPumps : GoodIn wsX5_digest wsX5_mixedWithJetsAndPumps := goodIn_ca (goodIn_ca (goodIn_r _ [88, 89, 90, 91, 8, 92, 10, 93, 94, 95, 83, 84, 23, 24, 25, 26, 27, 96, 97, 98, 99, 100, 101, 102, 103, 104, 105, 106, 107, 42, 43, 31, 44, 45, 46, 108, 34, 35, 36, 37, 38, 39, 40, 41, 47, 48, 49, 50, 51, 52, 53, 54, 55, 56, 57, 58, 59, 60, 61, 62, 63, 64, 65, 66, 109, 68, 69, 70, 71, 72, 73, 74, 110, 111, 112, 113, 14, 114, 115, 116, 117, 118, 119, 120, 121, 122, 269, 270, 271, 272, 275, 276, 277, 278, 279, 280, 281, 282, 283, 284, 291, 292, 293, 294, 295, 296, 297] (by decide +kernel) (by decide +kernel)) (goodIn_sub (fun _ h => List.mem_cons_of_mem _ (List.mem_append_right _ h)) (by decide +kernel))) (goodIn_sub (fun _ h => List.mem_cons_of_mem _ (List.mem_append_left _ (List.mem_append_right _ h))) (by decide +kernel))
set_option maxRecDepth 20000 in
theorem gX5_digest_X5_mixedWithJetsAndPumps : GoodIn wsX5_digest (wsV RX5 223 RX5 yX5_mixedWithJetsAndPumps wsX5_mixedWithJetsAndPumps) := goodIn_app (goodIn_of _ (by decide +kernel)) ggX5_digest_X5_mixedWithJetsAndPumps
set_option maxRecDepth 20000 in
theorem ggX5_digest_X5_mixedWithCues : GoodIn wsX5_digest wsX5_mixedWithCues := goodIn_ca (goodIn_r _ [126, 10, 12, 13, 127, 128, 129, 8, 130, 26, 27, 23, 24, 25, 131, 132, 133, 134, 135, 136, 137, 138, 139, 140, 71, 72, 73, 74, 269, 270, 271, 272, 275, 276, 277, 278, 279, 280, 281, 282, 283, 284, 285, 286, 287, 288, 289, 290] (by decide +kernel) (by decide +kernel)) (goodIn_sub (fun _ h => List.mem_cons_of_mem _ (List.mem_append_left _ (List.mem_append_right _ h))) (by decide +kernel))
set_option maxRecDepth 20000 in
theorem gX5_digest_X5_mixedWithCues : GoodIn wsX5_digest (wsV RX5 227 RX5 yX5_mixedWithCues wsX5_mixedWithCues) := goodIn_app (goodIn_of _ (by decide +kernel)) ggX5_digest_X5_mixedWithCues
set_option maxRecDepth 20000 in
theorem ggX5_digest_X5_ifPlayed : GoodIn wsX5_digest wsX5_ifPlayed := goodIn_ca (goodIn_r _ [144, 145, 10, 17, 18, 20, 23, 24, 8, 25, 26, 27, 146, 147, 148, 99, 149, 101, 150, 106, 151, 152, 153, 154, 155, 156, 157, 158, 159, 31, 160, 45, 161, 46, 162, 51, 62, 63, 163, 164, 165, 166, 167, 134, 168, 137, 138, 139, 140, 136, 169, 170, 171, 172, 173, 174, 175, 176, 177, 178, 179, 180, 181, 182, 183, 184, 105, 185, 186, 187, 188, 189, 190, 191, 192, 193, 194, 195, 196, 197, 52, 53, 54, 55, 64, 65, 66, 198, 199, 200, 201, 202, 203, 204, 205, 206, 207, 208, 38, 39, 40, 41, 42, 43, 44, 209, 48, 49, 50, 56, 57, 58, 59, 60, 61, 210, 211, 212, 213, 109, 68, 69, 70, 214, 215, 216, 217, 103, 269, 270, 271, 272, 275, 276, 277, 278, 279, 280, 281, 282, 283, 284, 291, 292, 293, 294, 295, 296, 297, 285, 286, 287, 288, 289, 290] (by decide +kernel) (by decide +kernel)) (goodIn_sub (fun _ h => List.mem_cons_of_mem _ (List.mem_append_left _ (List.mem_append_right _ h))) (by decide +kernel))
set_option maxRecDepth 20000 in
theorem gX5_digest_X5_ifPlayed : GoodIn wsX5_digest (wsV RX5 230 RX5 yX5_ifPlayed wsX5_ifPlayed) := goodIn_app (goodIn_of _ (by decide +kernel)) ggX5_digest_X5_ifPlayed
set_option maxRecDepth 20000 in
theorem ggX5_digest_X5_mostAim : GoodIn wsX5_digest wsX5_mostAim := goodIn_ca (goodIn_ca (goodIn_r _ [221, 10, 222, 223, 8, 224, 93, 94, 95, 83, 84, 23, 24, 25, 26, 27, 225, 226, 227, 99, 228, 152, 150, 229, 230, 231, 134, 232, 136, 233, 234, 235, 236, 138, 139, 237, 238, 239, 240, 101, 105, 102, 241, 242, 243, 244, 245, 140, 269, 270, 271, 272, 275, 276, 277, 278, 279, 280, 281, 282, 283, 284, 285, 286, 287, 288, 289, 290, 291, 292, 293, 294, 295, 296, 297] (by decide +kernel) (by decide +kernel)) (goodIn_sub (fun _ h => List.mem_cons_of_mem _ (List.mem_append_right _ h)) (by decide +kernel))) (goodIn_sub (fun _ h => List.mem_cons_of_mem _ (List.mem_append_left _ (List.mem_append_right _ h))) (by decide +kernel))
set_option maxRecDepth 20000 in
theorem gX5_digest_X5_mostAim : GoodIn wsX5_digest (wsV RX5 233 RX5 yX5_mostAim wsX5_mostAim) := goodIn_app (goodIn_of _ (by decide +kernel)) ggX5_digest_X5_mostAim
set_option maxRecDepth 20000 in
theorem ggX5_digest_X5_fits : GoodIn wsX5_digest wsX5_fits := goodIn_ca (goodIn_ca (goodIn_r _ [249, 10, 11, 250, 65, 54, 66, 12, 222, 223, 8, 224, 93, 94, 95, 83, 84, 23, 24, 25, 26, 27, 225, 226, 227, 99, 228, 152, 150, 229, 230, 231, 134, 232, 136, 233, 234, 235, 236, 138, 139, 237, 238, 239, 240, 101, 105, 102, 241, 242, 243, 244, 245, 140, 251, 252, 253, 254, 269, 270, 271, 272, 275, 276, 277, 278, 279, 280, 281, 282, 283, 284, 285, 286, 287, 288, 289, 290, 291, 292, 293, 294, 295, 296, 297] (by decide +kernel) (by decide +kernel)) (goodIn_sub (fun _ h => List.mem_cons_of_mem _ (List.mem_append_right _ h)) (by decide +kernel))) (goodIn_sub (fun _ h => List.mem_cons_of_mem _ (List.mem_append_left _ (List.mem_append_right _ h))) (by decide +kernel))
set_option maxRecDepth 20000 in
theorem gX5_digest_X5_fits : GoodIn wsX5_digest (wsV RX5 236 RX5 yX5_fits wsX5_fits) := goodIn_app (goodIn_of _ (by decide +kernel)) ggX5_digest_X5_fits
set_option maxRecDepth 20000 in
theorem ggX5_digest_X5_dryIn : GoodIn wsX5_digest wsX5_dryIn := goodIn_r _ [258, 145, 10, 18, 146, 147, 148, 99, 149, 101, 150, 106, 151, 152, 153, 154, 155, 156, 157, 158, 159, 31, 160, 45, 161, 46, 162, 51, 62, 63, 163, 8, 164, 165, 166, 167, 134, 168, 137, 138, 139, 140, 136, 169, 170, 171, 172, 173, 174, 175, 176, 177, 178, 179, 180, 181, 182, 183, 184, 105, 185, 186, 187, 188, 189, 190, 191, 192, 193, 194, 195, 196, 197, 52, 53, 54, 55, 64, 65, 66, 198, 199, 200, 201, 202, 203, 204, 205, 206, 207, 208, 38, 39, 40, 41, 42, 43, 44, 209, 48, 49, 50, 56, 57, 58, 59, 60, 61, 210, 211, 212, 213, 109, 68, 69, 70, 269, 270, 271, 272, 275, 276, 277, 278, 279, 280, 281, 282, 283, 284, 291, 292, 293, 294, 295, 296, 297, 285, 286, 287, 288, 289, 290] (by decide +kernel) (by decide +kernel)
set_option maxRecDepth 20000 in
theorem gX5_digest_X5_dryIn : GoodIn wsX5_digest (wsV RX5 239 RX5 yX5_dryIn wsX5_dryIn) := goodIn_app (goodIn_of _ (by decide +kernel)) ggX5_digest_X5_dryIn
set_option maxRecDepth 20000 in
theorem ggX5_digest_X5_share : GoodIn wsX5_digest wsX5_share := goodIn_r _ [262, 10, 14, 118, 38, 39, 31, 40, 41, 42, 43, 44, 45, 46, 119, 120, 121, 122, 37, 47, 48, 49, 50, 51, 52, 53, 54, 55, 56, 8, 57, 58, 59, 60, 61, 62, 63, 64, 65, 66, 269, 270, 271, 272, 275, 276, 277, 278, 279, 280, 281, 282, 283, 284, 291, 292, 293, 294, 295, 296, 297] (by decide +kernel) (by decide +kernel)
set_option maxRecDepth 20000 in
theorem gX5_digest_X5_share : GoodIn wsX5_digest (wsV RX5 242 RX5 yX5_share wsX5_share) := goodIn_app (goodIn_of _ (by decide +kernel)) ggX5_digest_X5_share
set_option maxRecDepth 20000 in
theorem ggX5_digest_X5_bitsOf : GoodIn wsX5_digest wsX5_bitsOf := goodIn_r _ [265, 266, 267, 268] (by decide +kernel) (by decide +kernel)
set_option maxRecDepth 20000 in
theorem gX5_digest_X5_bitsOf : GoodIn wsX5_digest (va_wsS RX5 246 yX5_bitsOf wsX5_bitsOf) := goodIn_app (goodIn_of _ (by decide +kernel)) ggX5_digest_X5_bitsOf
theorem dX5_digest_0 : decode cX5_digest 0 = .ok (.ldc2_w 211, 3) := by decide +kernel
theorem dX5_digest_3 : decode cX5_digest 3 = .ok (.lstore_n 1, 1) := by decide +kernel
theorem dX5_digest_4 : decode cX5_digest 4 = .ok (.iconst 0, 1) := by decide +kernel
theorem dX5_digest_5 : decode cX5_digest 5 = .ok (.istore_n 3, 1) := by decide +kernel
theorem dX5_digest_6 : decode cX5_digest 6 = .ok (.iload_n 3, 1) := by decide +kernel
theorem dX5_digest_7 : decode cX5_digest 7 = .ok (.bipush 9, 2) := by decide +kernel
theorem dX5_digest_9 : decode cX5_digest 9 = .ok (.if_icmp .gt 20, 3) := by decide +kernel
theorem dX5_digest_12 : decode cX5_digest 12 = .ok (.lload_n 1, 1) := by decide +kernel
theorem dX5_digest_13 : decode cX5_digest 13 = .ok (.aload_n 0, 1) := by decide +kernel
theorem dX5_digest_14 : decode cX5_digest 14 = .ok (.iload_n 3, 1) := by decide +kernel
theorem dX5_digest_15 : decode cX5_digest 15 = .ok (.invokevirtual 213, 3) := by decide +kernel
theorem dX5_digest_18 : decode cX5_digest 18 = .ok (.i2l, 1) := by decide +kernel
theorem dX5_digest_19 : decode cX5_digest 19 = .ok (.invokestatic 216, 3) := by decide +kernel
theorem dX5_digest_22 : decode cX5_digest 22 = .ok (.lstore_n 1, 1) := by decide +kernel
theorem dX5_digest_23 : decode cX5_digest 23 = .ok (.iinc 3 1, 3) := by decide +kernel
theorem dX5_digest_26 : decode cX5_digest 26 = .ok (.goto (-20), 3) := by decide +kernel
theorem dX5_digest_29 : decode cX5_digest 29 = .ok (.iconst 0, 1) := by decide +kernel
theorem dX5_digest_30 : decode cX5_digest 30 = .ok (.istore_n 3, 1) := by decide +kernel
theorem dX5_digest_31 : decode cX5_digest 31 = .ok (.iload_n 3, 1) := by decide +kernel
theorem dX5_digest_32 : decode cX5_digest 32 = .ok (.iconst 3, 1) := by decide +kernel
theorem dX5_digest_33 : decode cX5_digest 33 = .ok (.if_icmp .ge 20, 3) := by decide +kernel
theorem dX5_digest_36 : decode cX5_digest 36 = .ok (.lload_n 1, 1) := by decide +kernel
theorem dX5_digest_37 : decode cX5_digest 37 = .ok (.aload_n 0, 1) := by decide +kernel
theorem dX5_digest_38 : decode cX5_digest 38 = .ok (.iload_n 3, 1) := by decide +kernel
theorem dX5_digest_39 : decode cX5_digest 39 = .ok (.invokevirtual 220, 3) := by decide +kernel
theorem dX5_digest_42 : decode cX5_digest 42 = .ok (.i2l, 1) := by decide +kernel
theorem dX5_digest_43 : decode cX5_digest 43 = .ok (.invokestatic 216, 3) := by decide +kernel
theorem dX5_digest_46 : decode cX5_digest 46 = .ok (.lstore_n 1, 1) := by decide +kernel
theorem dX5_digest_47 : decode cX5_digest 47 = .ok (.iinc 3 1, 3) := by decide +kernel
theorem dX5_digest_50 : decode cX5_digest 50 = .ok (.goto (-19), 3) := by decide +kernel
theorem dX5_digest_53 : decode cX5_digest 53 = .ok (.aload_n 0, 1) := by decide +kernel
theorem dX5_digest_54 : decode cX5_digest 54 = .ok (.lload_n 1, 1) := by decide +kernel
theorem dX5_digest_55 : decode cX5_digest 55 = .ok (.invokevirtual 223, 3) := by decide +kernel
theorem dX5_digest_58 : decode cX5_digest 58 = .ok (.lstore_n 1, 1) := by decide +kernel
theorem dX5_digest_59 : decode cX5_digest 59 = .ok (.aload_n 0, 1) := by decide +kernel
theorem dX5_digest_60 : decode cX5_digest 60 = .ok (.lload_n 1, 1) := by decide +kernel
theorem dX5_digest_61 : decode cX5_digest 61 = .ok (.invokevirtual 227, 3) := by decide +kernel
theorem dX5_digest_64 : decode cX5_digest 64 = .ok (.lstore_n 1, 1) := by decide +kernel
theorem dX5_digest_65 : decode cX5_digest 65 = .ok (.iconst 0, 1) := by decide +kernel
theorem dX5_digest_66 : decode cX5_digest 66 = .ok (.istore_n 3, 1) := by decide +kernel
theorem dX5_digest_67 : decode cX5_digest 67 = .ok (.iload_n 3, 1) := by decide +kernel
theorem dX5_digest_68 : decode cX5_digest 68 = .ok (.iconst 3, 1) := by decide +kernel
theorem dX5_digest_69 : decode cX5_digest 69 = .ok (.if_icmp .gt 22, 3) := by decide +kernel
theorem dX5_digest_72 : decode cX5_digest 72 = .ok (.lload_n 1, 1) := by decide +kernel
theorem dX5_digest_73 : decode cX5_digest 73 = .ok (.aload_n 0, 1) := by decide +kernel
theorem dX5_digest_74 : decode cX5_digest 74 = .ok (.bipush 9, 2) := by decide +kernel
theorem dX5_digest_76 : decode cX5_digest 76 = .ok (.iload_n 3, 1) := by decide +kernel
theorem dX5_digest_77 : decode cX5_digest 77 = .ok (.invokevirtual 230, 3) := by decide +kernel
theorem dX5_digest_80 : decode cX5_digest 80 = .ok (.i2l, 1) := by decide +kernel
theorem dX5_digest_81 : decode cX5_digest 81 = .ok (.invokestatic 216, 3) := by decide +kernel
theorem dX5_digest_84 : decode cX5_digest 84 = .ok (.lstore_n 1, 1) := by decide +kernel
theorem dX5_digest_85 : decode cX5_digest 85 = .ok (.iinc 3 1, 3) := by decide +kernel
theorem dX5_digest_88 : decode cX5_digest 88 = .ok (.goto (-21), 3) := by decide +kernel
theorem dX5_digest_91 : decode cX5_digest 91 = .ok (.iconst 0, 1) := by decide +kernel
theorem dX5_digest_92 : decode cX5_digest 92 = .ok (.istore_n 3, 1) := by decide +kernel
theorem dX5_digest_93 : decode cX5_digest 93 = .ok (.iload_n 3, 1) := by decide +kernel
theorem dX5_digest_94 : decode cX5_digest 94 = .ok (.bipush 8, 2) := by decide +kernel
theorem dX5_digest_96 : decode cX5_digest 96 = .ok (.if_icmp .ge 37, 3) := by decide +kernel
theorem dX5_digest_99 : decode cX5_digest 99 = .ok (.lload_n 1, 1) := by decide +kernel
theorem dX5_digest_100 : decode cX5_digest 100 = .ok (.aload_n 0, 1) := by decide +kernel
theorem dX5_digest_101 : decode cX5_digest 101 = .ok (.bipush 20, 2) := by decide +kernel
theorem dX5_digest_103 : decode cX5_digest 103 = .ok (.iload_n 3, 1) := by decide +kernel
theorem dX5_digest_104 : decode cX5_digest 104 = .ok (.invokevirtual 233, 3) := by decide +kernel
theorem dX5_digest_107 : decode cX5_digest 107 = .ok (.i2l, 1) := by decide +kernel
theorem dX5_digest_108 : decode cX5_digest 108 = .ok (.invokestatic 216, 3) := by decide +kernel
theorem dX5_digest_111 : decode cX5_digest 111 = .ok (.lstore_n 1, 1) := by decide +kernel
theorem dX5_digest_112 : decode cX5_digest 112 = .ok (.lload_n 1, 1) := by decide +kernel
theorem dX5_digest_113 : decode cX5_digest 113 = .ok (.aload_n 0, 1) := by decide +kernel
theorem dX5_digest_114 : decode cX5_digest 114 = .ok (.bipush 20, 2) := by decide +kernel
theorem dX5_digest_116 : decode cX5_digest 116 = .ok (.iload_n 3, 1) := by decide +kernel
theorem dX5_digest_117 : decode cX5_digest 117 = .ok (.bipush 10, 2) := by decide +kernel
theorem dX5_digest_119 : decode cX5_digest 119 = .ok (.invokevirtual 236, 3) := by decide +kernel
theorem dX5_digest_122 : decode cX5_digest 122 = .ok (.i2l, 1) := by decide +kernel
theorem dX5_digest_123 : decode cX5_digest 123 = .ok (.invokestatic 216, 3) := by decide +kernel
theorem dX5_digest_126 : decode cX5_digest 126 = .ok (.lstore_n 1, 1) := by decide +kernel
theorem dX5_digest_127 : decode cX5_digest 127 = .ok (.iinc 3 1, 3) := by decide +kernel
theorem dX5_digest_130 : decode cX5_digest 130 = .ok (.goto (-37), 3) := by decide +kernel
theorem dX5_digest_133 : decode cX5_digest 133 = .ok (.lload_n 1, 1) := by decide +kernel
theorem dX5_digest_134 : decode cX5_digest 134 = .ok (.aload_n 0, 1) := by decide +kernel
theorem dX5_digest_135 : decode cX5_digest 135 = .ok (.invokevirtual 239, 3) := by decide +kernel
theorem dX5_digest_138 : decode cX5_digest 138 = .ok (.i2l, 1) := by decide +kernel
theorem dX5_digest_139 : decode cX5_digest 139 = .ok (.invokestatic 216, 3) := by decide +kernel
theorem dX5_digest_142 : decode cX5_digest 142 = .ok (.lstore_n 1, 1) := by decide +kernel
theorem dX5_digest_143 : decode cX5_digest 143 = .ok (.lload_n 1, 1) := by decide +kernel
theorem dX5_digest_144 : decode cX5_digest 144 = .ok (.aload_n 0, 1) := by decide +kernel
theorem dX5_digest_145 : decode cX5_digest 145 = .ok (.invokevirtual 242, 3) := by decide +kernel
theorem dX5_digest_148 : decode cX5_digest 148 = .ok (.invokestatic 246, 3) := by decide +kernel
theorem dX5_digest_151 : decode cX5_digest 151 = .ok (.invokestatic 216, 3) := by decide +kernel
theorem dX5_digest_154 : decode cX5_digest 154 = .ok (.lstore_n 1, 1) := by decide +kernel
theorem dX5_digest_155 : decode cX5_digest 155 = .ok (.lload_n 1, 1) := by decide +kernel
theorem dX5_digest_156 : decode cX5_digest 156 = .ok (.aload_n 0, 1) := by decide +kernel
theorem dX5_digest_157 : decode cX5_digest 157 = .ok (.getfield 29, 3) := by decide +kernel
theorem dX5_digest_160 : decode cX5_digest 160 = .ok (.getfield 133, 3) := by decide +kernel
theorem dX5_digest_163 : decode cX5_digest 163 = .ok (.i2l, 1) := by decide +kernel
theorem dX5_digest_164 : decode cX5_digest 164 = .ok (.invokestatic 216, 3) := by decide +kernel
theorem dX5_digest_167 : decode cX5_digest 167 = .ok (.lstore_n 1, 1) := by decide +kernel
theorem dX5_digest_168 : decode cX5_digest 168 = .ok (.iconst 0, 1) := by decide +kernel
theorem dX5_digest_169 : decode cX5_digest 169 = .ok (.istore_n 3, 1) := by decide +kernel
theorem dX5_digest_170 : decode cX5_digest 170 = .ok (.iload_n 3, 1) := by decide +kernel
theorem dX5_digest_171 : decode cX5_digest 171 = .ok (.aload_n 0, 1) := by decide +kernel
theorem dX5_digest_172 : decode cX5_digest 172 = .ok (.getfield 29, 3) := by decide +kernel
theorem dX5_digest_175 : decode cX5_digest 175 = .ok (.getfield 133, 3) := by decide +kernel
theorem dX5_digest_178 : decode cX5_digest 178 = .ok (.if_icmp .ge 30, 3) := by decide +kernel
theorem dX5_digest_181 : decode cX5_digest 181 = .ok (.iload_n 3, 1) := by decide +kernel
theorem dX5_digest_182 : decode cX5_digest 182 = .ok (.bipush 60, 2) := by decide +kernel
theorem dX5_digest_184 : decode cX5_digest 184 = .ok (.if_icmp .ge 24, 3) := by decide +kernel
theorem dX5_digest_187 : decode cX5_digest 187 = .ok (.lload_n 1, 1) := by decide +kernel
theorem dX5_digest_188 : decode cX5_digest 188 = .ok (.aload_n 0, 1) := by decide +kernel
theorem dX5_digest_189 : decode cX5_digest 189 = .ok (.getfield 29, 3) := by decide +kernel
theorem dX5_digest_192 : decode cX5_digest 192 = .ok (.getfield 138, 3) := by decide +kernel
theorem dX5_digest_195 : decode cX5_digest 195 = .ok (.iload_n 3, 1) := by decide +kernel
theorem dX5_digest_196 : decode cX5_digest 196 = .ok (.iaload, 1) := by decide +kernel
theorem dX5_digest_197 : decode cX5_digest 197 = .ok (.i2l, 1) := by decide +kernel
theorem dX5_digest_198 : decode cX5_digest 198 = .ok (.invokestatic 216, 3) := by decide +kernel
theorem dX5_digest_201 : decode cX5_digest 201 = .ok (.lstore_n 1, 1) := by decide +kernel
theorem dX5_digest_202 : decode cX5_digest 202 = .ok (.iinc 3 1, 3) := by decide +kernel
theorem dX5_digest_205 : decode cX5_digest 205 = .ok (.goto (-35), 3) := by decide +kernel
theorem dX5_digest_208 : decode cX5_digest 208 = .ok (.lload_n 1, 1) := by decide +kernel
theorem dX5_digest_209 : decode cX5_digest 209 = .ok (.lreturn, 1) := by decide +kernel
set_option maxRecDepth 20000 in
theorem ggX5_mixedWithJetsAndPumps_X5_jetOf : GoodIn wsX5_mixedWithJetsAndPumps wsX5_jetOf := goodIn_ca (goodIn_ca (goodIn_r _ [5, 6, 7, 8, 4, 9, 10, 11, 12, 13, 14, 15, 16, 17, 18, 19, 20, 21, 22, 23, 24, 25, 26, 27, 28, 29, 30, 31, 32, 33, 34, 35, 36, 37, 38, 39, 40, 41, 42, 43, 44, 45, 46, 47, 48, 49, 50, 51, 52, 53, 54, 55, 56, 57, 58, 59, 60, 61, 62, 63, 64, 65, 66, 67, 86, 87, 88, 89, 90, 91, 92, 93, 94, 95, 96, 97, 98, 99, 100, 101, 102, 103, 104, 105, 106] (by decide +kernel) (by decide +kernel)) (goodIn_sub (fun _ h => List.mem_cons_of_mem _ (List.mem_append_left _ (List.mem_append_right _ h))) (by decide +kernel))) (goodIn_sub (fun _ h => List.mem_cons_of_mem _ (List.mem_append_right _ h)) (by decide +kernel))
set_option maxRecDepth 20000 in
theorem gX5_mixedWithJetsAndPumps_X5_jetOf : GoodIn wsX5_mixedWithJetsAndPumps (wsV RX5 250 RX5 yX5_jetOf wsX5_jetOf) := goodIn_app (goodIn_of _ (by decide +kernel)) ggX5_mixedWithJetsAndPumps_X5_jetOf
set_option maxRecDepth 20000 in
theorem ggX5_mixedWithJetsAndPumps_X5_mixed : GoodIn wsX5_mixedWithJetsAndPumps wsX5_mixed := goodIn_r _ [70, 71] (by decide +kernel) (by decide +kernel)
set_option maxRecDepth 20000 in
theorem gX5_mixedWithJetsAndPumps_X5_mixed : GoodIn wsX5_mixedWithJetsAndPumps (va_wsS RX5 216 yX5_mixed wsX5_mixed) := goodIn_app (goodIn_of _ (by decide +kernel)) ggX5_mixedWithJetsAndPumps_X5_mixed
set_option maxRecDepth 20000 in
theorem ggX5_mixedWithJetsAndPumps_X5_pumpOf : GoodIn wsX5_mixedWithJetsAndPumps wsX5_pumpOf := goodIn_ca (goodIn_ca (goodIn_r _ [75, 6, 76, 77, 78, 79, 4, 80, 10, 11, 12, 13, 14, 15, 16, 81, 40, 41, 31, 42, 43, 29, 30, 32, 33, 34, 82, 83, 84, 85, 39, 44, 45, 46, 47, 48, 49, 50, 51, 52, 53, 54, 55, 56, 57, 58, 59, 60, 61, 62, 63, 86, 87, 88, 89, 90, 91, 92, 93, 94, 95, 96, 97, 98, 99, 100, 101, 102, 103, 104, 105, 106] (by decide +kernel) (by decide +kernel)) (goodIn_sub (fun _ h => List.mem_cons_of_mem _ (List.mem_append_left _ (List.mem_append_right _ h))) (by decide +kernel))) (goodIn_sub (fun _ h => List.mem_cons_of_mem _ (List.mem_append_right _ h)) (by decide +kernel))
set_option maxRecDepth 20000 in
theorem gX5_mixedWithJetsAndPumps_X5_pumpOf : GoodIn wsX5_mixedWithJetsAndPumps (wsV RX5 253 RX5 yX5_pumpOf wsX5_pumpOf) := goodIn_app (goodIn_of _ (by decide +kernel)) ggX5_mixedWithJetsAndPumps_X5_pumpOf
theorem dX5_mixedWithJetsAndPumps_0 : decode cX5_mixedWithJetsAndPumps 0 = .ok (.lload_n 1, 1) := by decide +kernel
theorem dX5_mixedWithJetsAndPumps_1 : decode cX5_mixedWithJetsAndPumps 1 = .ok (.lstore_n 3, 1) := by decide +kernel
theorem dX5_mixedWithJetsAndPumps_2 : decode cX5_mixedWithJetsAndPumps 2 = .ok (.iconst 0, 1) := by decide +kernel
theorem dX5_mixedWithJetsAndPumps_3 : decode cX5_mixedWithJetsAndPumps 3 = .ok (.istore 5, 2) := by decide +kernel
theorem dX5_mixedWithJetsAndPumps_5 : decode cX5_mixedWithJetsAndPumps 5 = .ok (.iload 5, 2) := by decide +kernel
theorem dX5_mixedWithJetsAndPumps_7 : decode cX5_mixedWithJetsAndPumps 7 = .ok (.bipush 8, 2) := by decide +kernel
theorem dX5_mixedWithJetsAndPumps_9 : decode cX5_mixedWithJetsAndPumps 9 = .ok (.if_icmp .ge 39, 3) := by decide +kernel
theorem dX5_mixedWithJetsAndPumps_12 : decode cX5_mixedWithJetsAndPumps 12 = .ok (.iconst 0, 1) := by decide +kernel
theorem dX5_mixedWithJetsAndPumps_13 : decode cX5_mixedWithJetsAndPumps 13 = .ok (.istore 6, 2) := by decide +kernel
theorem dX5_mixedWithJetsAndPumps_15 : decode cX5_mixedWithJetsAndPumps 15 = .ok (.iload 6, 2) := by decide +kernel
theorem dX5_mixedWithJetsAndPumps_17 : decode cX5_mixedWithJetsAndPumps 17 = .ok (.bipush 7, 2) := by decide +kernel
theorem dX5_mixedWithJetsAndPumps_19 : decode cX5_mixedWithJetsAndPumps 19 = .ok (.if_icmp .gt 23, 3) := by decide +kernel
theorem dX5_mixedWithJetsAndPumps_22 : decode cX5_mixedWithJetsAndPumps 22 = .ok (.lload_n 3, 1) := by decide +kernel
theorem dX5_mixedWithJetsAndPumps_23 : decode cX5_mixedWithJetsAndPumps 23 = .ok (.aload_n 0, 1) := by decide +kernel
theorem dX5_mixedWithJetsAndPumps_24 : decode cX5_mixedWithJetsAndPumps 24 = .ok (.iload 5, 2) := by decide +kernel
theorem dX5_mixedWithJetsAndPumps_26 : decode cX5_mixedWithJetsAndPumps 26 = .ok (.iload 6, 2) := by decide +kernel
theorem dX5_mixedWithJetsAndPumps_28 : decode cX5_mixedWithJetsAndPumps 28 = .ok (.invokevirtual 250, 3) := by decide +kernel
theorem dX5_mixedWithJetsAndPumps_31 : decode cX5_mixedWithJetsAndPumps 31 = .ok (.i2l, 1) := by decide +kernel
theorem dX5_mixedWithJetsAndPumps_32 : decode cX5_mixedWithJetsAndPumps 32 = .ok (.invokestatic 216, 3) := by decide +kernel
theorem dX5_mixedWithJetsAndPumps_35 : decode cX5_mixedWithJetsAndPumps 35 = .ok (.lstore_n 3, 1) := by decide +kernel
theorem dX5_mixedWithJetsAndPumps_36 : decode cX5_mixedWithJetsAndPumps 36 = .ok (.iinc 6 1, 3) := by decide +kernel
theorem dX5_mixedWithJetsAndPumps_39 : decode cX5_mixedWithJetsAndPumps 39 = .ok (.goto (-24), 3) := by decide +kernel
theorem dX5_mixedWithJetsAndPumps_42 : decode cX5_mixedWithJetsAndPumps 42 = .ok (.iinc 5 1, 3) := by decide +kernel
theorem dX5_mixedWithJetsAndPumps_45 : decode cX5_mixedWithJetsAndPumps 45 = .ok (.goto (-40), 3) := by decide +kernel
theorem dX5_mixedWithJetsAndPumps_48 : decode cX5_mixedWithJetsAndPumps 48 = .ok (.iconst 0, 1) := by decide +kernel
theorem dX5_mixedWithJetsAndPumps_49 : decode cX5_mixedWithJetsAndPumps 49 = .ok (.istore 5, 2) := by decide +kernel
theorem dX5_mixedWithJetsAndPumps_51 : decode cX5_mixedWithJetsAndPumps 51 = .ok (.iload 5, 2) := by decide +kernel
theorem dX5_mixedWithJetsAndPumps_53 : decode cX5_mixedWithJetsAndPumps 53 = .ok (.iconst 2, 1) := by decide +kernel
theorem dX5_mixedWithJetsAndPumps_54 : decode cX5_mixedWithJetsAndPumps 54 = .ok (.if_icmp .ge 38, 3) := by decide +kernel
theorem dX5_mixedWithJetsAndPumps_57 : decode cX5_mixedWithJetsAndPumps 57 = .ok (.iconst 0, 1) := by decide +kernel
theorem dX5_mixedWithJetsAndPumps_58 : decode cX5_mixedWithJetsAndPumps 58 = .ok (.istore 6, 2) := by decide +kernel
theorem dX5_mixedWithJetsAndPumps_60 : decode cX5_mixedWithJetsAndPumps 60 = .ok (.iload 6, 2) := by decide +kernel
theorem dX5_mixedWithJetsAndPumps_62 : decode cX5_mixedWithJetsAndPumps 62 = .ok (.iconst 2, 1) := by decide +kernel
theorem dX5_mixedWithJetsAndPumps_63 : decode cX5_mixedWithJetsAndPumps 63 = .ok (.if_icmp .gt 23, 3) := by decide +kernel
theorem dX5_mixedWithJetsAndPumps_66 : decode cX5_mixedWithJetsAndPumps 66 = .ok (.lload_n 3, 1) := by decide +kernel
theorem dX5_mixedWithJetsAndPumps_67 : decode cX5_mixedWithJetsAndPumps 67 = .ok (.aload_n 0, 1) := by decide +kernel
theorem dX5_mixedWithJetsAndPumps_68 : decode cX5_mixedWithJetsAndPumps 68 = .ok (.iload 5, 2) := by decide +kernel
theorem dX5_mixedWithJetsAndPumps_70 : decode cX5_mixedWithJetsAndPumps 70 = .ok (.iload 6, 2) := by decide +kernel
theorem dX5_mixedWithJetsAndPumps_72 : decode cX5_mixedWithJetsAndPumps 72 = .ok (.invokevirtual 253, 3) := by decide +kernel
theorem dX5_mixedWithJetsAndPumps_75 : decode cX5_mixedWithJetsAndPumps 75 = .ok (.i2l, 1) := by decide +kernel
theorem dX5_mixedWithJetsAndPumps_76 : decode cX5_mixedWithJetsAndPumps 76 = .ok (.invokestatic 216, 3) := by decide +kernel
theorem dX5_mixedWithJetsAndPumps_79 : decode cX5_mixedWithJetsAndPumps 79 = .ok (.lstore_n 3, 1) := by decide +kernel
theorem dX5_mixedWithJetsAndPumps_80 : decode cX5_mixedWithJetsAndPumps 80 = .ok (.iinc 6 1, 3) := by decide +kernel
theorem dX5_mixedWithJetsAndPumps_83 : decode cX5_mixedWithJetsAndPumps 83 = .ok (.goto (-23), 3) := by decide +kernel
theorem dX5_mixedWithJetsAndPumps_86 : decode cX5_mixedWithJetsAndPumps 86 = .ok (.iinc 5 1, 3) := by decide +kernel
theorem dX5_mixedWithJetsAndPumps_89 : decode cX5_mixedWithJetsAndPumps 89 = .ok (.goto (-38), 3) := by decide +kernel
theorem dX5_mixedWithJetsAndPumps_92 : decode cX5_mixedWithJetsAndPumps 92 = .ok (.lload_n 3, 1) := by decide +kernel
theorem dX5_mixedWithJetsAndPumps_93 : decode cX5_mixedWithJetsAndPumps 93 = .ok (.lreturn, 1) := by decide +kernel
set_option maxRecDepth 20000 in
theorem ggX5_mixedWithCues_X5_cueOf : GoodIn wsX5_mixedWithCues wsX5_cueOf := goodIn_ca (goodIn_r _ [8, 9, 10, 1, 2, 11, 12, 7, 13, 14, 15, 16, 17, 18, 19, 20, 21, 22, 23, 28, 29, 30, 31, 32, 33, 34, 35, 36, 37, 38, 39, 40, 41, 42, 43, 44, 45, 46, 47] (by decide +kernel) (by decide +kernel)) (goodIn_sub (fun _ h => List.mem_cons_of_mem _ (List.mem_append_right _ h)) (by decide +kernel))
set_option maxRecDepth 20000 in
theorem gX5_mixedWithCues_X5_cueOf : GoodIn wsX5_mixedWithCues (wsV RX5 256 RX5 yX5_cueOf wsX5_cueOf) := goodIn_app (goodIn_of _ (by decide +kernel)) ggX5_mixedWithCues_X5_cueOf
set_option maxRecDepth 20000 in
theorem ggX5_mixedWithCues_X5_mixed : GoodIn wsX5_mixedWithCues wsX5_mixed := goodIn_r _ [26, 27] (by decide +kernel) (by decide +kernel)
set_option maxRecDepth 20000 in
theorem gX5_mixedWithCues_X5_mixed : GoodIn wsX5_mixedWithCues (va_wsS RX5 216 yX5_mixed wsX5_mixed) := goodIn_app (goodIn_of _ (by decide +kernel)) ggX5_mixedWithCues_X5_mixed
theorem dX5_mixedWithCues_0 : decode cX5_mixedWithCues 0 = .ok (.lload_n 1, 1) := by decide +kernel
theorem dX5_mixedWithCues_1 : decode cX5_mixedWithCues 1 = .ok (.lstore_n 3, 1) := by decide +kernel
theorem dX5_mixedWithCues_2 : decode cX5_mixedWithCues 2 = .ok (.iconst 0, 1) := by decide +kernel
theorem dX5_mixedWithCues_3 : decode cX5_mixedWithCues 3 = .ok (.istore 5, 2) := by decide +kernel
theorem dX5_mixedWithCues_5 : decode cX5_mixedWithCues 5 = .ok (.iload 5, 2) := by decide +kernel
theorem dX5_mixedWithCues_7 : decode cX5_mixedWithCues 7 = .ok (.aload_n 0, 1) := by decide +kernel
theorem dX5_mixedWithCues_8 : decode cX5_mixedWithCues 8 = .ok (.getfield 10, 3) := by decide +kernel
theorem dX5_mixedWithCues_11 : decode cX5_mixedWithCues 11 = .ok (.getfield 103, 3) := by decide +kernel
theorem dX5_mixedWithCues_14 : decode cX5_mixedWithCues 14 = .ok (.getfield 124, 3) := by decide +kernel
theorem dX5_mixedWithCues_17 : decode cX5_mixedWithCues 17 = .ok (.if_icmp .ge 38, 3) := by decide +kernel
theorem dX5_mixedWithCues_20 : decode cX5_mixedWithCues 20 = .ok (.iconst 0, 1) := by decide +kernel
theorem dX5_mixedWithCues_21 : decode cX5_mixedWithCues 21 = .ok (.istore 6, 2) := by decide +kernel
theorem dX5_mixedWithCues_23 : decode cX5_mixedWithCues 23 = .ok (.iload 6, 2) := by decide +kernel
theorem dX5_mixedWithCues_25 : decode cX5_mixedWithCues 25 = .ok (.iconst 3, 1) := by decide +kernel
theorem dX5_mixedWithCues_26 : decode cX5_mixedWithCues 26 = .ok (.if_icmp .gt 23, 3) := by decide +kernel
theorem dX5_mixedWithCues_29 : decode cX5_mixedWithCues 29 = .ok (.lload_n 3, 1) := by decide +kernel
theorem dX5_mixedWithCues_30 : decode cX5_mixedWithCues 30 = .ok (.aload_n 0, 1) := by decide +kernel
theorem dX5_mixedWithCues_31 : decode cX5_mixedWithCues 31 = .ok (.iload 5, 2) := by decide +kernel
theorem dX5_mixedWithCues_33 : decode cX5_mixedWithCues 33 = .ok (.iload 6, 2) := by decide +kernel
theorem dX5_mixedWithCues_35 : decode cX5_mixedWithCues 35 = .ok (.invokevirtual 256, 3) := by decide +kernel
theorem dX5_mixedWithCues_38 : decode cX5_mixedWithCues 38 = .ok (.i2l, 1) := by decide +kernel
theorem dX5_mixedWithCues_39 : decode cX5_mixedWithCues 39 = .ok (.invokestatic 216, 3) := by decide +kernel
theorem dX5_mixedWithCues_42 : decode cX5_mixedWithCues 42 = .ok (.lstore_n 3, 1) := by decide +kernel
theorem dX5_mixedWithCues_43 : decode cX5_mixedWithCues 43 = .ok (.iinc 6 1, 3) := by decide +kernel
theorem dX5_mixedWithCues_46 : decode cX5_mixedWithCues 46 = .ok (.goto (-23), 3) := by decide +kernel
theorem dX5_mixedWithCues_49 : decode cX5_mixedWithCues 49 = .ok (.iinc 5 1, 3) := by decide +kernel
theorem dX5_mixedWithCues_52 : decode cX5_mixedWithCues 52 = .ok (.goto (-47), 3) := by decide +kernel
theorem dX5_mixedWithCues_55 : decode cX5_mixedWithCues 55 = .ok (.lload_n 3, 1) := by decide +kernel
theorem dX5_mixedWithCues_56 : decode cX5_mixedWithCues 56 = .ok (.lreturn, 1) := by decide +kernel
theorem dX5_mixed_0 : decode cX5_mixed 0 = .ok (.ldc2_w 259, 3) := by decide +kernel
theorem dX5_mixed_3 : decode cX5_mixed 3 = .ok (.lload_n 0, 1) := by decide +kernel
theorem dX5_mixed_4 : decode cX5_mixed 4 = .ok (.lmul, 1) := by decide +kernel
theorem dX5_mixed_5 : decode cX5_mixed 5 = .ok (.lload_n 2, 1) := by decide +kernel
theorem dX5_mixed_6 : decode cX5_mixed 6 = .ok (.ladd, 1) := by decide +kernel
theorem dX5_mixed_7 : decode cX5_mixed 7 = .ok (.lreturn, 1) := by decide +kernel
theorem dX5_bitsOf_0 : decode cX5_bitsOf 0 = .ok (.dload_n 0, 1) := by decide +kernel
theorem dX5_bitsOf_1 : decode cX5_bitsOf 1 = .ok (.dconst 0, 1) := by decide +kernel
theorem dX5_bitsOf_2 : decode cX5_bitsOf 2 = .ok (.dcmp .g, 1) := by decide +kernel
theorem dX5_bitsOf_3 : decode cX5_bitsOf 3 = .ok (.ifCond .gt 5, 3) := by decide +kernel
theorem dX5_bitsOf_6 : decode cX5_bitsOf 6 = .ok (.lconst 0, 1) := by decide +kernel
theorem dX5_bitsOf_7 : decode cX5_bitsOf 7 = .ok (.lreturn, 1) := by decide +kernel
theorem dX5_bitsOf_8 : decode cX5_bitsOf 8 = .ok (.ldc2_w 261, 3) := by decide +kernel
theorem dX5_bitsOf_11 : decode cX5_bitsOf 11 = .ok (.lstore_n 2, 1) := by decide +kernel
theorem dX5_bitsOf_12 : decode cX5_bitsOf 12 = .ok (.dload_n 0, 1) := by decide +kernel
theorem dX5_bitsOf_13 : decode cX5_bitsOf 13 = .ok (.dstore 4, 2) := by decide +kernel
theorem dX5_bitsOf_15 : decode cX5_bitsOf 15 = .ok (.iconst 0, 1) := by decide +kernel
theorem dX5_bitsOf_16 : decode cX5_bitsOf 16 = .ok (.istore 6, 2) := by decide +kernel
theorem dX5_bitsOf_18 : decode cX5_bitsOf 18 = .ok (.iload 6, 2) := by decide +kernel
theorem dX5_bitsOf_20 : decode cX5_bitsOf 20 = .ok (.sipush 1022, 3) := by decide +kernel
theorem dX5_bitsOf_23 : decode cX5_bitsOf 23 = .ok (.if_icmp .ge 28, 3) := by decide +kernel
theorem dX5_bitsOf_26 : decode cX5_bitsOf 26 = .ok (.dload 4, 2) := by decide +kernel
theorem dX5_bitsOf_28 : decode cX5_bitsOf 28 = .ok (.dconst 1, 1) := by decide +kernel
theorem dX5_bitsOf_29 : decode cX5_bitsOf 29 = .ok (.dcmp .g, 1) := by decide +kernel
theorem dX5_bitsOf_30 : decode cX5_bitsOf 30 = .ok (.ifCond .ge 21, 3) := by decide +kernel
theorem dX5_bitsOf_33 : decode cX5_bitsOf 33 = .ok (.dload 4, 2) := by decide +kernel
theorem dX5_bitsOf_35 : decode cX5_bitsOf 35 = .ok (.ldc2_w 263, 3) := by decide +kernel
theorem dX5_bitsOf_38 : decode cX5_bitsOf 38 = .ok (.dmul, 1) := by decide +kernel
theorem dX5_bitsOf_39 : decode cX5_bitsOf 39 = .ok (.dstore 4, 2) := by decide +kernel
theorem dX5_bitsOf_41 : decode cX5_bitsOf 41 = .ok (.lload_n 2, 1) := by decide +kernel
theorem dX5_bitsOf_42 : decode cX5_bitsOf 42 = .ok (.lconst 1, 1) := by decide +kernel
theorem dX5_bitsOf_43 : decode cX5_bitsOf 43 = .ok (.lsub, 1) := by decide +kernel
theorem dX5_bitsOf_44 : decode cX5_bitsOf 44 = .ok (.lstore_n 2, 1) := by decide +kernel
theorem dX5_bitsOf_45 : decode cX5_bitsOf 45 = .ok (.iinc 6 1, 3) := by decide +kernel
theorem dX5_bitsOf_48 : decode cX5_bitsOf 48 = .ok (.goto (-30), 3) := by decide +kernel
theorem dX5_bitsOf_51 : decode cX5_bitsOf 51 = .ok (.dload 4, 2) := by decide +kernel
theorem dX5_bitsOf_53 : decode cX5_bitsOf 53 = .ok (.dconst 1, 1) := by decide +kernel
theorem dX5_bitsOf_54 : decode cX5_bitsOf 54 = .ok (.dsub, 1) := by decide +kernel
theorem dX5_bitsOf_55 : decode cX5_bitsOf 55 = .ok (.ldc2_w 265, 3) := by decide +kernel
theorem dX5_bitsOf_58 : decode cX5_bitsOf 58 = .ok (.dmul, 1) := by decide +kernel
theorem dX5_bitsOf_59 : decode cX5_bitsOf 59 = .ok (.d2l, 1) := by decide +kernel
theorem dX5_bitsOf_60 : decode cX5_bitsOf 60 = .ok (.lstore 6, 2) := by decide +kernel
theorem dX5_bitsOf_62 : decode cX5_bitsOf 62 = .ok (.lload_n 2, 1) := by decide +kernel
theorem dX5_bitsOf_63 : decode cX5_bitsOf 63 = .ok (.bipush 52, 2) := by decide +kernel
theorem dX5_bitsOf_65 : decode cX5_bitsOf 65 = .ok (.lshl, 1) := by decide +kernel
theorem dX5_bitsOf_66 : decode cX5_bitsOf 66 = .ok (.lload 6, 2) := by decide +kernel
theorem dX5_bitsOf_68 : decode cX5_bitsOf 68 = .ok (.lor, 1) := by decide +kernel
theorem dX5_bitsOf_69 : decode cX5_bitsOf 69 = .ok (.lreturn, 1) := by decide +kernel
theorem dX5_needJet_0 : decode cX5_needJet 0 = .ok (.iload_n 0, 1) := by decide +kernel
theorem dX5_needJet_1 : decode cX5_needJet 1 = .ok (.ifCond .lt 9, 3) := by decide +kernel
theorem dX5_needJet_4 : decode cX5_needJet 4 = .ok (.iload_n 0, 1) := by decide +kernel
theorem dX5_needJet_5 : decode cX5_needJet 5 = .ok (.bipush 8, 2) := by decide +kernel
theorem dX5_needJet_7 : decode cX5_needJet 7 = .ok (.if_icmp .lt 14, 3) := by decide +kernel
theorem dX5_needJet_10 : decode cX5_needJet 10 = .ok (.new 116, 3) := by decide +kernel
theorem dX5_needJet_13 : decode cX5_needJet 13 = .ok (.dup, 1) := by decide +kernel
theorem dX5_needJet_14 : decode cX5_needJet 14 = .ok (.ldc_w 267, 3) := by decide +kernel
theorem dX5_needJet_17 : decode cX5_needJet 17 = .ok (.invokespecial 120, 3) := by decide +kernel
theorem dX5_needJet_20 : decode cX5_needJet 20 = .ok (.athrow, 1) := by decide +kernel
theorem dX5_needJet_21 : decode cX5_needJet 21 = .ok (.return_, 1) := by decide +kernel
theorem dX5_needPump_0 : decode cX5_needPump 0 = .ok (.iload_n 0, 1) := by decide +kernel
theorem dX5_needPump_1 : decode cX5_needPump 1 = .ok (.ifCond .lt 8, 3) := by decide +kernel
theorem dX5_needPump_4 : decode cX5_needPump 4 = .ok (.iload_n 0, 1) := by decide +kernel
theorem dX5_needPump_5 : decode cX5_needPump 5 = .ok (.iconst 2, 1) := by decide +kernel
theorem dX5_needPump_6 : decode cX5_needPump 6 = .ok (.if_icmp .lt 14, 3) := by decide +kernel
theorem dX5_needPump_9 : decode cX5_needPump 9 = .ok (.new 116, 3) := by decide +kernel
theorem dX5_needPump_12 : decode cX5_needPump 12 = .ok (.dup, 1) := by decide +kernel
theorem dX5_needPump_13 : decode cX5_needPump 13 = .ok (.ldc_w 269, 3) := by decide +kernel
theorem dX5_needPump_16 : decode cX5_needPump 16 = .ok (.invokespecial 120, 3) := by decide +kernel
theorem dX5_needPump_19 : decode cX5_needPump 19 = .ok (.athrow, 1) := by decide +kernel
theorem dX5_needPump_20 : decode cX5_needPump 20 = .ok (.return_, 1) := by decide +kernel
theorem dX5_needSetting_0 : decode cX5_needSetting 0 = .ok (.iload_n 0, 1) := by decide +kernel
theorem dX5_needSetting_1 : decode cX5_needSetting 1 = .ok (.ifCond .lt 8, 3) := by decide +kernel
theorem dX5_needSetting_4 : decode cX5_needSetting 4 = .ok (.iload_n 0, 1) := by decide +kernel
theorem dX5_needSetting_5 : decode cX5_needSetting 5 = .ok (.iconst 3, 1) := by decide +kernel
theorem dX5_needSetting_6 : decode cX5_needSetting 6 = .ok (.if_icmp .lt 14, 3) := by decide +kernel
theorem dX5_needSetting_9 : decode cX5_needSetting 9 = .ok (.new 116, 3) := by decide +kernel
theorem dX5_needSetting_12 : decode cX5_needSetting 12 = .ok (.dup, 1) := by decide +kernel
theorem dX5_needSetting_13 : decode cX5_needSetting 13 = .ok (.ldc_w 271, 3) := by decide +kernel
theorem dX5_needSetting_16 : decode cX5_needSetting 16 = .ok (.invokespecial 120, 3) := by decide +kernel
theorem dX5_needSetting_19 : decode cX5_needSetting 19 = .ok (.athrow, 1) := by decide +kernel
theorem dX5_needSetting_20 : decode cX5_needSetting 20 = .ok (.return_, 1) := by decide +kernel
theorem dX5_needWithin_0 : decode cX5_needWithin 0 = .ok (.iload_n 0, 1) := by decide +kernel
theorem dX5_needWithin_1 : decode cX5_needWithin 1 = .ok (.iload_n 1, 1) := by decide +kernel
theorem dX5_needWithin_2 : decode cX5_needWithin 2 = .ok (.if_icmp .lt 8, 3) := by decide +kernel
theorem dX5_needWithin_5 : decode cX5_needWithin 5 = .ok (.iload_n 0, 1) := by decide +kernel
theorem dX5_needWithin_6 : decode cX5_needWithin 6 = .ok (.iload_n 2, 1) := by decide +kernel
theorem dX5_needWithin_7 : decode cX5_needWithin 7 = .ok (.if_icmp .le 14, 3) := by decide +kernel
theorem dX5_needWithin_10 : decode cX5_needWithin 10 = .ok (.new 149, 3) := by decide +kernel
theorem dX5_needWithin_13 : decode cX5_needWithin 13 = .ok (.dup, 1) := by decide +kernel
theorem dX5_needWithin_14 : decode cX5_needWithin 14 = .ok (.ldc_w 273, 3) := by decide +kernel
theorem dX5_needWithin_17 : decode cX5_needWithin 17 = .ok (.invokespecial 153, 3) := by decide +kernel
theorem dX5_needWithin_20 : decode cX5_needWithin 20 = .ok (.athrow, 1) := by decide +kernel
theorem dX5_needWithin_21 : decode cX5_needWithin 21 = .ok (.return_, 1) := by decide +kernel
set_option maxRecDepth 20000 in
theorem ggX5_needCue_X5_needJet : GoodIn wsX5_needCue wsX5_needJet := goodIn_ca (goodIn_r _ [4, 5, 6] (by decide +kernel) (by decide +kernel)) (goodIn_sub (fun _ h => List.mem_cons_of_mem _ (List.mem_append_left _ (List.mem_append_right _ h))) (by decide +kernel))
set_option maxRecDepth 20000 in
theorem gX5_needCue_X5_needJet : GoodIn wsX5_needCue (va_wsS RX5 33 yX5_needJet wsX5_needJet) := goodIn_app (goodIn_of _ (by decide +kernel)) ggX5_needCue_X5_needJet
set_option maxRecDepth 20000 in
theorem ggX5_needCue_X5_needWithin : GoodIn wsX5_needCue wsX5_needWithin := goodIn_ca (goodIn_r _ [9, 10, 11] (by decide +kernel) (by decide +kernel)) (goodIn_sub (fun _ h => List.mem_cons_of_mem _ (List.mem_append_right _ h)) (by decide +kernel))
set_option maxRecDepth 20000 in
theorem gX5_needCue_X5_needWithin : GoodIn wsX5_needCue (va_wsS RX5 37 yX5_needWithin wsX5_needWithin) := goodIn_app (goodIn_of _ (by decide +kernel)) ggX5_needCue_X5_needWithin
theorem dX5_needCue_0 : decode cX5_needCue 0 = .ok (.iload_n 1, 1) := by decide +kernel
theorem dX5_needCue_1 : decode cX5_needCue 1 = .ok (.invokestatic 33, 3) := by decide +kernel
theorem dX5_needCue_4 : decode cX5_needCue 4 = .ok (.iload_n 0, 1) := by decide +kernel
theorem dX5_needCue_5 : decode cX5_needCue 5 = .ok (.iconst 0, 1) := by decide +kernel
theorem dX5_needCue_6 : decode cX5_needCue 6 = .ok (.sipush 999, 3) := by decide +kernel
theorem dX5_needCue_9 : decode cX5_needCue 9 = .ok (.invokestatic 37, 3) := by decide +kernel
theorem dX5_needCue_12 : decode cX5_needCue 12 = .ok (.iload_n 2, 1) := by decide +kernel
theorem dX5_needCue_13 : decode cX5_needCue 13 = .ok (.iconst 0, 1) := by decide +kernel
theorem dX5_needCue_14 : decode cX5_needCue 14 = .ok (.bipush 10, 2) := by decide +kernel
theorem dX5_needCue_16 : decode cX5_needCue 16 = .ok (.invokestatic 37, 3) := by decide +kernel
theorem dX5_needCue_19 : decode cX5_needCue 19 = .ok (.return_, 1) := by decide +kernel
