theorem dX5_init_0 : decode cX5_init 0 = .ok (.aload_n 0, 1) := by decide +kernel
theorem dX5_init_1 : decode cX5_init 1 = .ok (.invokespecial 3, 3) := by decide +kernel
theorem dX5_init_4 : decode cX5_init 4 = .ok (.aload_n 0, 1) := by decide +kernel
theorem dX5_init_5 : decode cX5_init 5 = .ok (.new 9, 3) := by decide +kernel
theorem dX5_init_8 : decode cX5_init 8 = .ok (.dup, 1) := by decide +kernel
theorem dX5_init_9 : decode cX5_init 9 = .ok (.invokespecial 11, 3) := by decide +kernel
theorem dX5_init_12 : decode cX5_init 12 = .ok (.putfield 12, 3) := by decide +kernel
theorem dX5_init_15 : decode cX5_init 15 = .ok (.aload_n 0, 1) := by decide +kernel
theorem dX5_init_16 : decode cX5_init 16 = .ok (.new 16, 3) := by decide +kernel
theorem dX5_init_19 : decode cX5_init 19 = .ok (.dup, 1) := by decide +kernel
theorem dX5_init_20 : decode cX5_init 20 = .ok (.invokespecial 18, 3) := by decide +kernel
theorem dX5_init_23 : decode cX5_init 23 = .ok (.putfield 19, 3) := by decide +kernel
theorem dX5_init_26 : decode cX5_init 26 = .ok (.aload_n 0, 1) := by decide +kernel
theorem dX5_init_27 : decode cX5_init 27 = .ok (.iconst 2, 1) := by decide +kernel
theorem dX5_init_28 : decode cX5_init 28 = .ok (.anewarray 9, 3) := by decide +kernel
theorem dX5_init_31 : decode cX5_init 31 = .ok (.putfield 23, 3) := by decide +kernel
theorem dX5_init_34 : decode cX5_init 34 = .ok (.aload_n 0, 1) := by decide +kernel
theorem dX5_init_35 : decode cX5_init 35 = .ok (.iconst 2, 1) := by decide +kernel
theorem dX5_init_36 : decode cX5_init 36 = .ok (.newarray .boolean, 2) := by decide +kernel
theorem dX5_init_38 : decode cX5_init 38 = .ok (.putfield 27, 3) := by decide +kernel
theorem dX5_init_41 : decode cX5_init 41 = .ok (.aload_n 0, 1) := by decide +kernel
theorem dX5_init_42 : decode cX5_init 42 = .ok (.new 31, 3) := by decide +kernel
theorem dX5_init_45 : decode cX5_init 45 = .ok (.dup, 1) := by decide +kernel
theorem dX5_init_46 : decode cX5_init 46 = .ok (.invokespecial 33, 3) := by decide +kernel
theorem dX5_init_49 : decode cX5_init 49 = .ok (.putfield 34, 3) := by decide +kernel
theorem dX5_init_52 : decode cX5_init 52 = .ok (.aload_n 0, 1) := by decide +kernel
theorem dX5_init_53 : decode cX5_init 53 = .ok (.new 38, 3) := by decide +kernel
theorem dX5_init_56 : decode cX5_init 56 = .ok (.dup, 1) := by decide +kernel
theorem dX5_init_57 : decode cX5_init 57 = .ok (.invokespecial 40, 3) := by decide +kernel
theorem dX5_init_60 : decode cX5_init 60 = .ok (.putfield 41, 3) := by decide +kernel
theorem dX5_init_63 : decode cX5_init 63 = .ok (.aload_n 0, 1) := by decide +kernel
theorem dX5_init_64 : decode cX5_init 64 = .ok (.bipush 16, 2) := by decide +kernel
theorem dX5_init_66 : decode cX5_init 66 = .ok (.newarray .int, 2) := by decide +kernel
theorem dX5_init_68 : decode cX5_init 68 = .ok (.putfield 45, 3) := by decide +kernel
theorem dX5_init_71 : decode cX5_init 71 = .ok (.iconst 0, 1) := by decide +kernel
theorem dX5_init_72 : decode cX5_init 72 = .ok (.istore_n 1, 1) := by decide +kernel
theorem dX5_init_73 : decode cX5_init 73 = .ok (.iload_n 1, 1) := by decide +kernel
theorem dX5_init_74 : decode cX5_init 74 = .ok (.iconst 2, 1) := by decide +kernel
theorem dX5_init_75 : decode cX5_init 75 = .ok (.if_icmp .ge 22, 3) := by decide +kernel
theorem dX5_init_78 : decode cX5_init 78 = .ok (.aload_n 0, 1) := by decide +kernel
theorem dX5_init_79 : decode cX5_init 79 = .ok (.getfield 23, 3) := by decide +kernel
theorem dX5_init_82 : decode cX5_init 82 = .ok (.iload_n 1, 1) := by decide +kernel
theorem dX5_init_83 : decode cX5_init 83 = .ok (.new 9, 3) := by decide +kernel
theorem dX5_init_86 : decode cX5_init 86 = .ok (.dup, 1) := by decide +kernel
theorem dX5_init_87 : decode cX5_init 87 = .ok (.invokespecial 11, 3) := by decide +kernel
theorem dX5_init_90 : decode cX5_init 90 = .ok (.aastore, 1) := by decide +kernel
theorem dX5_init_91 : decode cX5_init 91 = .ok (.iinc 1 1, 3) := by decide +kernel
theorem dX5_init_94 : decode cX5_init 94 = .ok (.goto (-21), 3) := by decide +kernel
theorem dX5_init_97 : decode cX5_init 97 = .ok (.return_, 1) := by decide +kernel
set_option maxRecDepth 20000 in
theorem ggX5_set_X1_prepare : GoodIn wsX5_set wsX1_prepare := goodIn_r _ [7, 8, 9, 10, 11, 12, 13, 14, 15, 16, 17, 18, 19, 20, 21, 22, 23, 24, 25, 26, 27, 28, 29, 30, 31, 32, 33, 34, 35, 36, 37, 38, 65, 66, 67, 68, 69, 70, 71, 72, 73, 74, 75, 76, 77, 78, 79, 80, 81] (by decide +kernel) (by decide +kernel)
set_option maxRecDepth 20000 in
theorem gX5_set_X1_prepare : GoodIn wsX5_set (wsV RX5 49 RX1 yX1_prepare wsX1_prepare) := goodIn_app (goodIn_of _ (by decide +kernel)) ggX5_set_X1_prepare
set_option maxRecDepth 20000 in
theorem ggX5_set_X4_replaceSetting : GoodIn wsX5_set wsX4_replaceSetting := goodIn_r _ [42, 15, 43, 44, 45, 67, 68, 69, 70, 71, 72, 73] (by decide +kernel) (by decide +kernel)
set_option maxRecDepth 20000 in
theorem gX5_set_X4_replaceSetting : GoodIn wsX5_set (wsV RX5 53 RX4 yX4_replaceSetting wsX4_replaceSetting) := goodIn_app (goodIn_of _ (by decide +kernel)) ggX5_set_X4_replaceSetting
set_option maxRecDepth 20000 in
theorem ggX5_set_X5_keptIfDone : GoodIn wsX5_set wsX5_keptIfDone := goodIn_r _ [49, 1, 50, 51, 52, 6, 53, 8, 54, 55, 56, 57, 9, 58, 59, 60, 61, 62, 63, 64, 65, 66] (by decide +kernel) (by decide +kernel)
set_option maxRecDepth 20000 in
theorem gX5_set_X5_keptIfDone : GoodIn wsX5_set (wsV RX5 57 RX5 yX5_keptIfDone wsX5_keptIfDone) := goodIn_app (goodIn_of _ (by decide +kernel)) ggX5_set_X5_keptIfDone
theorem dX5_set_0 : decode cX5_set 0 = .ok (.aload_n 0, 1) := by decide +kernel
theorem dX5_set_1 : decode cX5_set 1 = .ok (.getfield 19, 3) := by decide +kernel
theorem dX5_set_4 : decode cX5_set 4 = .ok (.aload_n 0, 1) := by decide +kernel
theorem dX5_set_5 : decode cX5_set 5 = .ok (.getfield 12, 3) := by decide +kernel
theorem dX5_set_8 : decode cX5_set 8 = .ok (.invokevirtual 49, 3) := by decide +kernel
theorem dX5_set_11 : decode cX5_set 11 = .ok (.aload_n 0, 1) := by decide +kernel
theorem dX5_set_12 : decode cX5_set 12 = .ok (.aload_n 0, 1) := by decide +kernel
theorem dX5_set_13 : decode cX5_set 13 = .ok (.getfield 12, 3) := by decide +kernel
theorem dX5_set_16 : decode cX5_set 16 = .ok (.iload_n 1, 1) := by decide +kernel
theorem dX5_set_17 : decode cX5_set 17 = .ok (.iload_n 2, 1) := by decide +kernel
theorem dX5_set_18 : decode cX5_set 18 = .ok (.invokevirtual 53, 3) := by decide +kernel
theorem dX5_set_21 : decode cX5_set 21 = .ok (.invokevirtual 57, 3) := by decide +kernel
theorem dX5_set_24 : decode cX5_set 24 = .ok (.ireturn, 1) := by decide +kernel
set_option maxRecDepth 20000 in
theorem ggX5_hang_X1_prepare : GoodIn wsX5_hang wsX1_prepare := goodIn_r _ [7, 8, 9, 10, 11, 12, 13, 14, 15, 16, 17, 18, 19, 20, 21, 22, 23, 24, 25, 26, 27, 28, 29, 30, 31, 32, 33, 34, 35, 36, 37, 38, 69, 70, 71, 72, 73, 74, 75, 76, 77, 78, 79, 80, 81, 82, 83, 84, 85] (by decide +kernel) (by decide +kernel)
set_option maxRecDepth 20000 in
theorem gX5_hang_X1_prepare : GoodIn wsX5_hang (wsV RX5 49 RX1 yX1_prepare wsX1_prepare) := goodIn_app (goodIn_of _ (by decide +kernel)) ggX5_hang_X1_prepare
set_option maxRecDepth 20000 in
theorem ggX5_hang_X4_addClock : GoodIn wsX5_hang wsX4_addClock := goodIn_r _ [42, 21, 22, 43, 44, 45, 46, 47, 48, 29, 49, 31, 32, 33, 34, 35, 36, 37, 38, 71, 72, 73, 74, 75, 76, 77, 78, 79, 80, 81, 82, 83, 84, 85] (by decide +kernel) (by decide +kernel)
set_option maxRecDepth 20000 in
theorem gX5_hang_X4_addClock : GoodIn wsX5_hang (wsV RX5 61 RX4 yX4_addClock wsX4_addClock) := goodIn_app (goodIn_of _ (by decide +kernel)) ggX5_hang_X4_addClock
set_option maxRecDepth 20000 in
theorem ggX5_hang_X5_keptIfDone : GoodIn wsX5_hang wsX5_keptIfDone := goodIn_r _ [53, 1, 54, 55, 56, 6, 57, 8, 58, 59, 60, 61, 9, 62, 63, 64, 65, 66, 67, 68, 69, 70] (by decide +kernel) (by decide +kernel)
set_option maxRecDepth 20000 in
theorem gX5_hang_X5_keptIfDone : GoodIn wsX5_hang (wsV RX5 57 RX5 yX5_keptIfDone wsX5_keptIfDone) := goodIn_app (goodIn_of _ (by decide +kernel)) ggX5_hang_X5_keptIfDone
theorem dX5_hang_0 : decode cX5_hang 0 = .ok (.aload_n 0, 1) := by decide +kernel
theorem dX5_hang_1 : decode cX5_hang 1 = .ok (.getfield 19, 3) := by decide +kernel
theorem dX5_hang_4 : decode cX5_hang 4 = .ok (.aload_n 0, 1) := by decide +kernel
theorem dX5_hang_5 : decode cX5_hang 5 = .ok (.getfield 12, 3) := by decide +kernel
theorem dX5_hang_8 : decode cX5_hang 8 = .ok (.invokevirtual 49, 3) := by decide +kernel
theorem dX5_hang_11 : decode cX5_hang 11 = .ok (.aload_n 0, 1) := by decide +kernel
theorem dX5_hang_12 : decode cX5_hang 12 = .ok (.aload_n 0, 1) := by decide +kernel
theorem dX5_hang_13 : decode cX5_hang 13 = .ok (.getfield 12, 3) := by decide +kernel
theorem dX5_hang_16 : decode cX5_hang 16 = .ok (.iload_n 1, 1) := by decide +kernel
theorem dX5_hang_17 : decode cX5_hang 17 = .ok (.iload_n 2, 1) := by decide +kernel
theorem dX5_hang_18 : decode cX5_hang 18 = .ok (.iload_n 3, 1) := by decide +kernel
theorem dX5_hang_19 : decode cX5_hang 19 = .ok (.invokevirtual 61, 3) := by decide +kernel
theorem dX5_hang_22 : decode cX5_hang 22 = .ok (.invokevirtual 57, 3) := by decide +kernel
theorem dX5_hang_25 : decode cX5_hang 25 = .ok (.ireturn, 1) := by decide +kernel
set_option maxRecDepth 20000 in
theorem ggX5_ladder_X1_prepare : GoodIn wsX5_ladder wsX1_prepare := goodIn_r _ [7, 8, 9, 10, 11, 12, 13, 14, 15, 16, 17, 18, 19, 20, 21, 22, 23, 24, 25, 26, 27, 28, 29, 30, 31, 32, 33, 34, 35, 36, 37, 38, 65, 66, 67, 68, 69, 70, 71, 72, 73, 74, 75, 76, 77, 78, 79, 80, 81] (by decide +kernel) (by decide +kernel)
set_option maxRecDepth 20000 in
theorem gX5_ladder_X1_prepare : GoodIn wsX5_ladder (wsV RX5 49 RX1 yX1_prepare wsX1_prepare) := goodIn_app (goodIn_of _ (by decide +kernel)) ggX5_ladder_X1_prepare
set_option maxRecDepth 20000 in
theorem ggX5_ladder_X4_addLadder : GoodIn wsX5_ladder wsX4_addLadder := goodIn_r _ [42, 23, 20, 43, 44, 45, 67, 68, 69, 70, 71, 72, 73] (by decide +kernel) (by decide +kernel)
set_option maxRecDepth 20000 in
theorem gX5_ladder_X4_addLadder : GoodIn wsX5_ladder (wsV RX5 65 RX4 yX4_addLadder wsX4_addLadder) := goodIn_app (goodIn_of _ (by decide +kernel)) ggX5_ladder_X4_addLadder
set_option maxRecDepth 20000 in
theorem ggX5_ladder_X5_keptIfDone : GoodIn wsX5_ladder wsX5_keptIfDone := goodIn_r _ [49, 1, 50, 51, 52, 6, 53, 8, 54, 55, 56, 57, 9, 58, 59, 60, 61, 62, 63, 64, 65, 66] (by decide +kernel) (by decide +kernel)
set_option maxRecDepth 20000 in
theorem gX5_ladder_X5_keptIfDone : GoodIn wsX5_ladder (wsV RX5 57 RX5 yX5_keptIfDone wsX5_keptIfDone) := goodIn_app (goodIn_of _ (by decide +kernel)) ggX5_ladder_X5_keptIfDone
theorem dX5_ladder_0 : decode cX5_ladder 0 = .ok (.aload_n 0, 1) := by decide +kernel
theorem dX5_ladder_1 : decode cX5_ladder 1 = .ok (.getfield 19, 3) := by decide +kernel
theorem dX5_ladder_4 : decode cX5_ladder 4 = .ok (.aload_n 0, 1) := by decide +kernel
theorem dX5_ladder_5 : decode cX5_ladder 5 = .ok (.getfield 12, 3) := by decide +kernel
theorem dX5_ladder_8 : decode cX5_ladder 8 = .ok (.invokevirtual 49, 3) := by decide +kernel
theorem dX5_ladder_11 : decode cX5_ladder 11 = .ok (.aload_n 0, 1) := by decide +kernel
theorem dX5_ladder_12 : decode cX5_ladder 12 = .ok (.aload_n 0, 1) := by decide +kernel
theorem dX5_ladder_13 : decode cX5_ladder 13 = .ok (.getfield 12, 3) := by decide +kernel
theorem dX5_ladder_16 : decode cX5_ladder 16 = .ok (.iload_n 1, 1) := by decide +kernel
theorem dX5_ladder_17 : decode cX5_ladder 17 = .ok (.invokevirtual 65, 3) := by decide +kernel
theorem dX5_ladder_20 : decode cX5_ladder 20 = .ok (.invokevirtual 57, 3) := by decide +kernel
theorem dX5_ladder_23 : decode cX5_ladder 23 = .ok (.ireturn, 1) := by decide +kernel
set_option maxRecDepth 20000 in
theorem ggX5_screw_X1_prepare : GoodIn wsX5_screw wsX1_prepare := goodIn_r _ [7, 8, 9, 10, 11, 12, 13, 14, 15, 16, 17, 18, 19, 20, 21, 22, 23, 24, 25, 26, 27, 28, 29, 30, 31, 32, 33, 34, 35, 36, 37, 38, 70, 71, 72, 73, 74, 75, 76, 77, 78, 79, 80, 81, 82, 83, 84, 85, 86] (by decide +kernel) (by decide +kernel)
set_option maxRecDepth 20000 in
theorem gX5_screw_X1_prepare : GoodIn wsX5_screw (wsV RX5 49 RX1 yX1_prepare wsX1_prepare) := goodIn_app (goodIn_of _ (by decide +kernel)) ggX5_screw_X1_prepare
set_option maxRecDepth 20000 in
theorem ggX5_screw_X4_turnScrew : GoodIn wsX5_screw wsX4_turnScrew := goodIn_r _ [42, 22, 43, 44, 45, 46, 13, 47, 21, 48, 49, 50, 72, 73, 74, 75, 76, 77, 78, 79, 80, 81, 82, 83, 84, 85, 86] (by decide +kernel) (by decide +kernel)
set_option maxRecDepth 20000 in
theorem gX5_screw_X4_turnScrew : GoodIn wsX5_screw (wsV RX5 68 RX4 yX4_turnScrew wsX4_turnScrew) := goodIn_app (goodIn_of _ (by decide +kernel)) ggX5_screw_X4_turnScrew
set_option maxRecDepth 20000 in
theorem ggX5_screw_X5_keptIfDone : GoodIn wsX5_screw wsX5_keptIfDone := goodIn_r _ [54, 1, 55, 56, 57, 6, 58, 8, 59, 60, 61, 62, 9, 63, 64, 65, 66, 67, 68, 69, 70, 71] (by decide +kernel) (by decide +kernel)
set_option maxRecDepth 20000 in
theorem gX5_screw_X5_keptIfDone : GoodIn wsX5_screw (wsV RX5 57 RX5 yX5_keptIfDone wsX5_keptIfDone) := goodIn_app (goodIn_of _ (by decide +kernel)) ggX5_screw_X5_keptIfDone
theorem dX5_screw_0 : decode cX5_screw 0 = .ok (.aload_n 0, 1) := by decide +kernel
theorem dX5_screw_1 : decode cX5_screw 1 = .ok (.getfield 19, 3) := by decide +kernel
theorem dX5_screw_4 : decode cX5_screw 4 = .ok (.aload_n 0, 1) := by decide +kernel
theorem dX5_screw_5 : decode cX5_screw 5 = .ok (.getfield 12, 3) := by decide +kernel
theorem dX5_screw_8 : decode cX5_screw 8 = .ok (.invokevirtual 49, 3) := by decide +kernel
theorem dX5_screw_11 : decode cX5_screw 11 = .ok (.aload_n 0, 1) := by decide +kernel
theorem dX5_screw_12 : decode cX5_screw 12 = .ok (.aload_n 0, 1) := by decide +kernel
theorem dX5_screw_13 : decode cX5_screw 13 = .ok (.getfield 12, 3) := by decide +kernel
theorem dX5_screw_16 : decode cX5_screw 16 = .ok (.iload_n 1, 1) := by decide +kernel
theorem dX5_screw_17 : decode cX5_screw 17 = .ok (.iload_n 2, 1) := by decide +kernel
theorem dX5_screw_18 : decode cX5_screw 18 = .ok (.invokevirtual 68, 3) := by decide +kernel
theorem dX5_screw_21 : decode cX5_screw 21 = .ok (.invokevirtual 57, 3) := by decide +kernel
theorem dX5_screw_24 : decode cX5_screw 24 = .ok (.ireturn, 1) := by decide +kernel
set_option maxRecDepth 20000 in
theorem ggX5_round_X5_chooseRow : GoodIn wsX5_round wsX5_chooseRow := goodIn_r _ [8, 3, 2, 9, 10, 11, 12, 13, 14, 15, 16, 17, 18, 19, 20, 21, 118, 119, 120, 121, 122, 123, 124, 125, 126, 127, 128, 129, 130, 131, 132, 133] (by decide +kernel) (by decide +kernel)
set_option maxRecDepth 20000 in
theorem gX5_round_X5_chooseRow : GoodIn wsX5_round (wsV RX5 71 RX5 yX5_chooseRow wsX5_chooseRow) := goodIn_app (goodIn_of _ (by decide +kernel)) ggX5_round_X5_chooseRow
set_option maxRecDepth 20000 in
theorem ggX5_round_X1_prepare : GoodIn wsX5_round wsX1_prepare := goodIn_r _ [26, 27, 28, 29, 30, 31, 32, 33, 34, 35, 36, 37, 38, 39, 40, 41, 42, 43, 44, 45, 46, 47, 48, 49, 50, 51, 52, 53, 54, 55, 56, 57, 134, 135, 125, 126, 127, 128, 129, 130, 131, 136, 137, 138, 139, 140, 141, 142, 143] (by decide +kernel) (by decide +kernel)
set_option maxRecDepth 20000 in
theorem gX5_round_X1_prepare : GoodIn wsX5_round (wsV RX5 49 RX1 yX1_prepare wsX1_prepare) := goodIn_app (goodIn_of _ (by decide +kernel)) ggX5_round_X1_prepare
set_option maxRecDepth 20000 in
theorem ggX5_round_X4_walkBeat : GoodIn wsX5_round wsX4_walkBeat := goodIn_r _ [61, 62, 41, 34, 44, 63, 64, 65, 32, 66, 67, 68, 69, 70, 71, 72, 73, 74, 14, 75, 16, 21, 76, 77, 78, 79, 40, 80, 81, 82, 83, 84, 42, 39, 85, 86, 87, 88, 89, 90, 91, 48, 92, 57, 54, 55, 56, 93, 94, 95, 96, 97, 98, 99, 100, 101, 53, 102, 103, 104, 105, 52, 132, 133, 125, 126, 127, 128, 129, 130, 131, 136, 137, 138, 139, 140, 141, 142, 143] (by decide +kernel) (by decide +kernel)
set_option maxRecDepth 20000 in
theorem gX5_round_X4_walkBeat : GoodIn wsX5_round (wsV RX5 74 RX4 yX4_walkBeat wsX4_walkBeat) := goodIn_app (goodIn_of _ (by decide +kernel)) ggX5_round_X4_walkBeat
set_option maxRecDepth 20000 in
theorem ggX5_round_X5_keptIfDone : GoodIn wsX5_round wsX5_keptIfDone := goodIn_r _ [109, 1, 110, 111, 112, 25, 113, 27, 114, 115, 116, 117, 28, 118, 119, 120, 121, 122, 123, 124, 134, 135] (by decide +kernel) (by decide +kernel)
set_option maxRecDepth 20000 in
theorem gX5_round_X5_keptIfDone : GoodIn wsX5_round (wsV RX5 57 RX5 yX5_keptIfDone wsX5_keptIfDone) := goodIn_app (goodIn_of _ (by decide +kernel)) ggX5_round_X5_keptIfDone
theorem dX5_round_0 : decode cX5_round 0 = .ok (.aload_n 0, 1) := by decide +kernel
theorem dX5_round_1 : decode cX5_round 1 = .ok (.iload_n 1, 1) := by decide +kernel
theorem dX5_round_2 : decode cX5_round 2 = .ok (.invokevirtual 71, 3) := by decide +kernel
theorem dX5_round_5 : decode cX5_round 5 = .ok (.istore_n 2, 1) := by decide +kernel
theorem dX5_round_6 : decode cX5_round 6 = .ok (.iload_n 2, 1) := by decide +kernel
theorem dX5_round_7 : decode cX5_round 7 = .ok (.ifCond .ge 5, 3) := by decide +kernel
theorem dX5_round_10 : decode cX5_round 10 = .ok (.iload_n 2, 1) := by decide +kernel
theorem dX5_round_11 : decode cX5_round 11 = .ok (.ireturn, 1) := by decide +kernel
theorem dX5_round_12 : decode cX5_round 12 = .ok (.aload_n 0, 1) := by decide +kernel
theorem dX5_round_13 : decode cX5_round 13 = .ok (.getfield 19, 3) := by decide +kernel
theorem dX5_round_16 : decode cX5_round 16 = .ok (.aload_n 0, 1) := by decide +kernel
theorem dX5_round_17 : decode cX5_round 17 = .ok (.getfield 12, 3) := by decide +kernel
theorem dX5_round_20 : decode cX5_round 20 = .ok (.invokevirtual 49, 3) := by decide +kernel
theorem dX5_round_23 : decode cX5_round 23 = .ok (.aload_n 0, 1) := by decide +kernel
theorem dX5_round_24 : decode cX5_round 24 = .ok (.aload_n 0, 1) := by decide +kernel
theorem dX5_round_25 : decode cX5_round 25 = .ok (.getfield 12, 3) := by decide +kernel
theorem dX5_round_28 : decode cX5_round 28 = .ok (.aload_n 0, 1) := by decide +kernel
theorem dX5_round_29 : decode cX5_round 29 = .ok (.getfield 41, 3) := by decide +kernel
theorem dX5_round_32 : decode cX5_round 32 = .ok (.invokevirtual 74, 3) := by decide +kernel
theorem dX5_round_35 : decode cX5_round 35 = .ok (.invokevirtual 57, 3) := by decide +kernel
theorem dX5_round_38 : decode cX5_round 38 = .ok (.ireturn, 1) := by decide +kernel
set_option maxRecDepth 20000 in
theorem ggX5_pass_X1_prepare : GoodIn wsX5_pass wsX1_prepare := goodIn_r _ [7, 8, 9, 10, 11, 12, 13, 14, 15, 16, 17, 18, 19, 20, 21, 22, 23, 24, 25, 26, 27, 28, 29, 30, 31, 32, 33, 34, 35, 36, 37, 38, 79, 80, 81, 82, 83, 84, 85, 86, 87, 88, 89, 90, 91, 92, 93, 94, 95] (by decide +kernel) (by decide +kernel)
set_option maxRecDepth 20000 in
theorem gX5_pass_X1_prepare : GoodIn wsX5_pass (wsV RX5 49 RX1 yX1_prepare wsX1_prepare) := goodIn_app (goodIn_of _ (by decide +kernel)) ggX5_pass_X1_prepare
set_option maxRecDepth 20000 in
theorem ggX5_pass_X4_passDays : GoodIn wsX5_pass wsX4_passDays := goodIn_r _ [42, 24, 21, 22, 15, 43, 44, 45, 46, 47, 48, 29, 49, 38, 35, 36, 50, 51, 52, 53, 54, 33, 34, 55, 56, 57, 13, 58, 59, 81, 82, 83, 84, 85, 86, 87, 88, 89, 90, 91, 92, 93, 94, 95] (by decide +kernel) (by decide +kernel)
set_option maxRecDepth 20000 in
theorem gX5_pass_X4_passDays : GoodIn wsX5_pass (wsV RX5 78 RX4 yX4_passDays wsX4_passDays) := goodIn_app (goodIn_of _ (by decide +kernel)) ggX5_pass_X4_passDays
set_option maxRecDepth 20000 in
theorem ggX5_pass_X5_keptIfDone : GoodIn wsX5_pass wsX5_keptIfDone := goodIn_r _ [63, 1, 64, 65, 66, 6, 67, 8, 68, 69, 70, 71, 9, 72, 73, 74, 75, 76, 77, 78, 79, 80] (by decide +kernel) (by decide +kernel)
set_option maxRecDepth 20000 in
theorem gX5_pass_X5_keptIfDone : GoodIn wsX5_pass (wsV RX5 57 RX5 yX5_keptIfDone wsX5_keptIfDone) := goodIn_app (goodIn_of _ (by decide +kernel)) ggX5_pass_X5_keptIfDone
theorem dX5_pass_0 : decode cX5_pass 0 = .ok (.aload_n 0, 1) := by decide +kernel
theorem dX5_pass_1 : decode cX5_pass 1 = .ok (.getfield 19, 3) := by decide +kernel
theorem dX5_pass_4 : decode cX5_pass 4 = .ok (.aload_n 0, 1) := by decide +kernel
theorem dX5_pass_5 : decode cX5_pass 5 = .ok (.getfield 12, 3) := by decide +kernel
theorem dX5_pass_8 : decode cX5_pass 8 = .ok (.invokevirtual 49, 3) := by decide +kernel
theorem dX5_pass_11 : decode cX5_pass 11 = .ok (.aload_n 0, 1) := by decide +kernel
theorem dX5_pass_12 : decode cX5_pass 12 = .ok (.aload_n 0, 1) := by decide +kernel
theorem dX5_pass_13 : decode cX5_pass 13 = .ok (.getfield 12, 3) := by decide +kernel
theorem dX5_pass_16 : decode cX5_pass 16 = .ok (.iload_n 1, 1) := by decide +kernel
theorem dX5_pass_17 : decode cX5_pass 17 = .ok (.invokevirtual 78, 3) := by decide +kernel
theorem dX5_pass_20 : decode cX5_pass 20 = .ok (.invokevirtual 57, 3) := by decide +kernel
theorem dX5_pass_23 : decode cX5_pass 23 = .ok (.ireturn, 1) := by decide +kernel
set_option maxRecDepth 20000 in
theorem ggX5_change_X1_prepare : GoodIn wsX5_change wsX1_prepare := goodIn_r _ [7, 8, 9, 10, 11, 12, 13, 14, 15, 16, 17, 18, 19, 20, 21, 22, 23, 24, 25, 26, 27, 28, 29, 30, 31, 32, 33, 34, 35, 36, 37, 38, 69, 70, 71, 72, 73, 74, 75, 76, 77, 78, 79, 80, 81, 82, 83, 84, 85] (by decide +kernel) (by decide +kernel)
set_option maxRecDepth 20000 in
theorem gX5_change_X1_prepare : GoodIn wsX5_change (wsV RX5 49 RX1 yX1_prepare wsX1_prepare) := goodIn_app (goodIn_of _ (by decide +kernel)) ggX5_change_X1_prepare
set_option maxRecDepth 20000 in
theorem ggX5_change_X4_changeClocks : GoodIn wsX5_change wsX4_changeClocks := goodIn_r _ [42, 21, 22, 43, 44, 45, 46, 47, 13, 48, 71, 72, 73, 74, 75, 76, 77, 78, 79, 80, 81, 82, 83, 84, 85] (by decide +kernel) (by decide +kernel)
set_option maxRecDepth 20000 in
theorem gX5_change_X4_changeClocks : GoodIn wsX5_change (wsV RX5 81 RX4 yX4_changeClocks wsX4_changeClocks) := goodIn_app (goodIn_of _ (by decide +kernel)) ggX5_change_X4_changeClocks
set_option maxRecDepth 20000 in
theorem ggX5_change_X5_keptIfDone : GoodIn wsX5_change wsX5_keptIfDone := goodIn_r _ [53, 1, 54, 55, 56, 6, 57, 8, 58, 59, 60, 61, 9, 62, 63, 64, 65, 66, 67, 68, 69, 70] (by decide +kernel) (by decide +kernel)
set_option maxRecDepth 20000 in
theorem gX5_change_X5_keptIfDone : GoodIn wsX5_change (wsV RX5 57 RX5 yX5_keptIfDone wsX5_keptIfDone) := goodIn_app (goodIn_of _ (by decide +kernel)) ggX5_change_X5_keptIfDone
theorem dX5_change_0 : decode cX5_change 0 = .ok (.aload_n 0, 1) := by decide +kernel
theorem dX5_change_1 : decode cX5_change 1 = .ok (.getfield 19, 3) := by decide +kernel
theorem dX5_change_4 : decode cX5_change 4 = .ok (.aload_n 0, 1) := by decide +kernel
theorem dX5_change_5 : decode cX5_change 5 = .ok (.getfield 12, 3) := by decide +kernel
theorem dX5_change_8 : decode cX5_change 8 = .ok (.invokevirtual 49, 3) := by decide +kernel
theorem dX5_change_11 : decode cX5_change 11 = .ok (.aload_n 0, 1) := by decide +kernel
theorem dX5_change_12 : decode cX5_change 12 = .ok (.aload_n 0, 1) := by decide +kernel
theorem dX5_change_13 : decode cX5_change 13 = .ok (.getfield 12, 3) := by decide +kernel
theorem dX5_change_16 : decode cX5_change 16 = .ok (.iload_n 1, 1) := by decide +kernel
theorem dX5_change_17 : decode cX5_change 17 = .ok (.invokevirtual 81, 3) := by decide +kernel
theorem dX5_change_20 : decode cX5_change 20 = .ok (.invokevirtual 57, 3) := by decide +kernel
theorem dX5_change_23 : decode cX5_change 23 = .ok (.ireturn, 1) := by decide +kernel
set_option maxRecDepth 20000 in
theorem ggX5_of_X4_hasClock : GoodIn wsX5_of wsX4_hasClock := goodIn_r _ [17, 18, 48, 49, 50, 51, 52, 53, 54] (by decide +kernel) (by decide +kernel)
set_option maxRecDepth 20000 in
theorem gX5_of_X4_hasClock : GoodIn wsX5_of (wsV RX5 84 RX4 yX4_hasClock wsX4_hasClock) := goodIn_app (goodIn_of _ (by decide +kernel)) ggX5_of_X4_hasClock
set_option maxRecDepth 20000 in
theorem ggX5_of_X0_isOffBeyond : GoodIn wsX5_of wsX0_isOffBeyond := goodIn_r _ [23, 24, 25, 26, 27, 28, 55, 56, 57, 58, 59, 60, 61, 62] (by decide +kernel) (by decide +kernel)
set_option maxRecDepth 20000 in
theorem gX5_of_X0_isOffBeyond : GoodIn wsX5_of (wsV RX5 121 RX0 yX0_isOffBeyond wsX0_isOffBeyond) := goodIn_app (goodIn_of _ (by decide +kernel)) ggX5_of_X0_isOffBeyond
set_option maxRecDepth 20000 in
theorem ggX5_of_X4_ladderNeeded : GoodIn wsX5_of wsX4_ladderNeeded := goodIn_r _ [32, 33, 34, 35, 55, 56, 57, 58, 59, 60, 61, 62, 48, 49, 50, 51, 52, 53, 54] (by decide +kernel) (by decide +kernel)
set_option maxRecDepth 20000 in
theorem gX5_of_X4_ladderNeeded : GoodIn wsX5_of (wsV RX5 124 RX4 yX4_ladderNeeded wsX4_ladderNeeded) := goodIn_app (goodIn_of _ (by decide +kernel)) ggX5_of_X4_ladderNeeded
set_option maxRecDepth 20000 in
theorem ggX5_of_X4_canBeWound : GoodIn wsX5_of wsX4_canBeWound := goodIn_r _ [39, 33, 40, 30, 31, 16, 32, 34, 35, 55, 56, 57, 58, 59, 60, 61, 62, 48, 49, 50, 51, 52, 53, 54] (by decide +kernel) (by decide +kernel)
set_option maxRecDepth 20000 in
theorem gX5_of_X4_canBeWound : GoodIn wsX5_of (wsV RX5 128 RX4 yX4_canBeWound wsX4_canBeWound) := goodIn_app (goodIn_of _ (by decide +kernel)) ggX5_of_X4_canBeWound
theorem dX5_of_0 : decode cX5_of 0 = .ok (.aload_n 0, 1) := by decide +kernel
theorem dX5_of_1 : decode cX5_of 1 = .ok (.getfield 12, 3) := by decide +kernel
theorem dX5_of_4 : decode cX5_of 4 = .ok (.iload_n 1, 1) := by decide +kernel
theorem dX5_of_5 : decode cX5_of 5 = .ok (.invokevirtual 84, 3) := by decide +kernel
theorem dX5_of_8 : decode cX5_of 8 = .ok (.ifCond .ne 5, 3) := by decide +kernel
theorem dX5_of_11 : decode cX5_of 11 = .ok (.iconst (-1), 1) := by decide +kernel
theorem dX5_of_12 : decode cX5_of 12 = .ok (.ireturn, 1) := by decide +kernel
theorem dX5_of_13 : decode cX5_of 13 = .ok (.aload_n 0, 1) := by decide +kernel
theorem dX5_of_14 : decode cX5_of 14 = .ok (.getfield 12, 3) := by decide +kernel
theorem dX5_of_17 : decode cX5_of 17 = .ok (.getfield 88, 3) := by decide +kernel
theorem dX5_of_20 : decode cX5_of 20 = .ok (.iload_n 1, 1) := by decide +kernel
theorem dX5_of_21 : decode cX5_of 21 = .ok (.aaload, 1) := by decide +kernel
theorem dX5_of_22 : decode cX5_of 22 = .ok (.astore_n 3, 1) := by decide +kernel
theorem dX5_of_23 : decode cX5_of 23 = .ok (.iload_n 2, 1) := by decide +kernel
theorem dX5_of_24 : decode cX5_of 24 = .ok (.tableswitch 165 0 10 #[60, 65, 70, 78, 86, 94, 99, 112, 134, 143, 160], 60) := by decide +kernel
theorem dX5_of_84 : decode cX5_of 84 = .ok (.aload_n 3, 1) := by decide +kernel
theorem dX5_of_85 : decode cX5_of 85 = .ok (.getfield 92, 3) := by decide +kernel
theorem dX5_of_88 : decode cX5_of 88 = .ok (.ireturn, 1) := by decide +kernel
theorem dX5_of_89 : decode cX5_of 89 = .ok (.aload_n 3, 1) := by decide +kernel
theorem dX5_of_90 : decode cX5_of 90 = .ok (.getfield 98, 3) := by decide +kernel
theorem dX5_of_93 : decode cX5_of 93 = .ok (.ireturn, 1) := by decide +kernel
theorem dX5_of_94 : decode cX5_of 94 = .ok (.aload_n 3, 1) := by decide +kernel
theorem dX5_of_95 : decode cX5_of 95 = .ok (.getfield 101, 3) := by decide +kernel
theorem dX5_of_98 : decode cX5_of 98 = .ok (.bipush 100, 2) := by decide +kernel
theorem dX5_of_100 : decode cX5_of 100 = .ok (.iadd, 1) := by decide +kernel
theorem dX5_of_101 : decode cX5_of 101 = .ok (.ireturn, 1) := by decide +kernel
theorem dX5_of_102 : decode cX5_of 102 = .ok (.aload_n 3, 1) := by decide +kernel
theorem dX5_of_103 : decode cX5_of 103 = .ok (.getfield 104, 3) := by decide +kernel
theorem dX5_of_106 : decode cX5_of 106 = .ok (.bipush 20, 2) := by decide +kernel
theorem dX5_of_108 : decode cX5_of 108 = .ok (.iadd, 1) := by decide +kernel
theorem dX5_of_109 : decode cX5_of 109 = .ok (.ireturn, 1) := by decide +kernel
theorem dX5_of_110 : decode cX5_of 110 = .ok (.aload_n 3, 1) := by decide +kernel
theorem dX5_of_111 : decode cX5_of 111 = .ok (.getfield 107, 3) := by decide +kernel
theorem dX5_of_114 : decode cX5_of 114 = .ok (.ldc 110, 2) := by decide +kernel
theorem dX5_of_116 : decode cX5_of 116 = .ok (.iadd, 1) := by decide +kernel
theorem dX5_of_117 : decode cX5_of 117 = .ok (.ireturn, 1) := by decide +kernel
theorem dX5_of_118 : decode cX5_of 118 = .ok (.aload_n 3, 1) := by decide +kernel
theorem dX5_of_119 : decode cX5_of 119 = .ok (.getfield 111, 3) := by decide +kernel
theorem dX5_of_122 : decode cX5_of 122 = .ok (.ireturn, 1) := by decide +kernel
theorem dX5_of_123 : decode cX5_of 123 = .ok (.aload_n 3, 1) := by decide +kernel
theorem dX5_of_124 : decode cX5_of 124 = .ok (.getfield 114, 3) := by decide +kernel
theorem dX5_of_127 : decode cX5_of 127 = .ok (.ifCond .eq 7, 3) := by decide +kernel
theorem dX5_of_130 : decode cX5_of 130 = .ok (.iconst 1, 1) := by decide +kernel
theorem dX5_of_131 : decode cX5_of 131 = .ok (.goto 4, 3) := by decide +kernel
theorem dX5_of_134 : decode cX5_of 134 = .ok (.iconst 0, 1) := by decide +kernel
theorem dX5_of_135 : decode cX5_of 135 = .ok (.ireturn, 1) := by decide +kernel
theorem dX5_of_136 : decode cX5_of 136 = .ok (.aload_n 3, 1) := by decide +kernel
theorem dX5_of_137 : decode cX5_of 137 = .ok (.aload_n 0, 1) := by decide +kernel
theorem dX5_of_138 : decode cX5_of 138 = .ok (.getfield 12, 3) := by decide +kernel
theorem dX5_of_141 : decode cX5_of 141 = .ok (.getfield 118, 3) := by decide +kernel
theorem dX5_of_144 : decode cX5_of 144 = .ok (.iconst 0, 1) := by decide +kernel
theorem dX5_of_145 : decode cX5_of 145 = .ok (.iaload, 1) := by decide +kernel
theorem dX5_of_146 : decode cX5_of 146 = .ok (.invokevirtual 121, 3) := by decide +kernel
theorem dX5_of_149 : decode cX5_of 149 = .ok (.ifCond .eq 7, 3) := by decide +kernel
theorem dX5_of_152 : decode cX5_of 152 = .ok (.iconst 0, 1) := by decide +kernel
theorem dX5_of_153 : decode cX5_of 153 = .ok (.goto 4, 3) := by decide +kernel
theorem dX5_of_156 : decode cX5_of 156 = .ok (.iconst 1, 1) := by decide +kernel
theorem dX5_of_157 : decode cX5_of 157 = .ok (.ireturn, 1) := by decide +kernel
theorem dX5_of_158 : decode cX5_of 158 = .ok (.aload_n 0, 1) := by decide +kernel
theorem dX5_of_159 : decode cX5_of 159 = .ok (.getfield 12, 3) := by decide +kernel
theorem dX5_of_162 : decode cX5_of 162 = .ok (.aload_n 3, 1) := by decide +kernel
theorem dX5_of_163 : decode cX5_of 163 = .ok (.invokevirtual 124, 3) := by decide +kernel
theorem dX5_of_166 : decode cX5_of 166 = .ok (.ireturn, 1) := by decide +kernel
theorem dX5_of_167 : decode cX5_of 167 = .ok (.aload_n 0, 1) := by decide +kernel
theorem dX5_of_168 : decode cX5_of 168 = .ok (.getfield 12, 3) := by decide +kernel
theorem dX5_of_171 : decode cX5_of 171 = .ok (.aload_n 3, 1) := by decide +kernel
theorem dX5_of_172 : decode cX5_of 172 = .ok (.invokevirtual 128, 3) := by decide +kernel
theorem dX5_of_175 : decode cX5_of 175 = .ok (.ifCond .eq 7, 3) := by decide +kernel
theorem dX5_of_178 : decode cX5_of 178 = .ok (.iconst 1, 1) := by decide +kernel
theorem dX5_of_179 : decode cX5_of 179 = .ok (.goto 4, 3) := by decide +kernel
theorem dX5_of_182 : decode cX5_of 182 = .ok (.iconst 0, 1) := by decide +kernel
theorem dX5_of_183 : decode cX5_of 183 = .ok (.ireturn, 1) := by decide +kernel
theorem dX5_of_184 : decode cX5_of 184 = .ok (.aload_n 3, 1) := by decide +kernel
theorem dX5_of_185 : decode cX5_of 185 = .ok (.getfield 132, 3) := by decide +kernel
theorem dX5_of_188 : decode cX5_of 188 = .ok (.ireturn, 1) := by decide +kernel
theorem dX5_of_189 : decode cX5_of 189 = .ok (.bipush (-2), 2) := by decide +kernel
theorem dX5_of_191 : decode cX5_of 191 = .ok (.ireturn, 1) := by decide +kernel
set_option maxRecDepth 20000 in
theorem ggX5_ofLadder_X4_hasLadder : GoodIn wsX5_ofLadder wsX4_hasLadder := goodIn_r _ [7, 8, 16, 17, 18, 19, 20, 21, 22] (by decide +kernel) (by decide +kernel)
set_option maxRecDepth 20000 in
theorem gX5_ofLadder_X4_hasLadder : GoodIn wsX5_ofLadder (wsV RX5 135 RX4 yX4_hasLadder wsX4_hasLadder) := goodIn_app (goodIn_of _ (by decide +kernel)) ggX5_ofLadder_X4_hasLadder
theorem dX5_ofLadder_0 : decode cX5_ofLadder 0 = .ok (.aload_n 0, 1) := by decide +kernel
theorem dX5_ofLadder_1 : decode cX5_ofLadder 1 = .ok (.getfield 12, 3) := by decide +kernel
theorem dX5_ofLadder_4 : decode cX5_ofLadder 4 = .ok (.iload_n 1, 1) := by decide +kernel
theorem dX5_ofLadder_5 : decode cX5_ofLadder 5 = .ok (.invokevirtual 135, 3) := by decide +kernel
theorem dX5_ofLadder_8 : decode cX5_ofLadder 8 = .ok (.ifCond .eq 15, 3) := by decide +kernel
theorem dX5_ofLadder_11 : decode cX5_ofLadder 11 = .ok (.aload_n 0, 1) := by decide +kernel
theorem dX5_ofLadder_12 : decode cX5_ofLadder 12 = .ok (.getfield 12, 3) := by decide +kernel
theorem dX5_ofLadder_15 : decode cX5_ofLadder 15 = .ok (.getfield 138, 3) := by decide +kernel
theorem dX5_ofLadder_18 : decode cX5_ofLadder 18 = .ok (.iload_n 1, 1) := by decide +kernel
theorem dX5_ofLadder_19 : decode cX5_ofLadder 19 = .ok (.iaload, 1) := by decide +kernel
theorem dX5_ofLadder_20 : decode cX5_ofLadder 20 = .ok (.goto 4, 3) := by decide +kernel
theorem dX5_ofLadder_23 : decode cX5_ofLadder 23 = .ok (.iconst (-1), 1) := by decide +kernel
theorem dX5_ofLadder_24 : decode cX5_ofLadder 24 = .ok (.ireturn, 1) := by decide +kernel
set_option maxRecDepth 20000 in
theorem ggX5_count_X4_setOfStill : GoodIn wsX5_count wsX4_setOfStill := goodIn_r _ [15, 16, 17, 18, 61, 62, 63, 64, 65, 66, 67, 75, 76, 77, 78, 79, 80, 81, 82] (by decide +kernel) (by decide +kernel)
set_option maxRecDepth 20000 in
theorem gX5_count_X4_setOfStill : GoodIn wsX5_count (wsV RX5 150 RX4 yX4_setOfStill wsX4_setOfStill) := goodIn_app (goodIn_of _ (by decide +kernel)) ggX5_count_X4_setOfStill
set_option maxRecDepth 20000 in
theorem ggX5_count_X4_numberOffBeyondTold : GoodIn wsX5_count wsX4_numberOffBeyondTold := goodIn_r _ [22, 16, 17, 23, 24, 25, 26, 27, 28, 29, 30, 31, 32, 33, 61, 62, 63, 64, 65, 66, 67, 75, 76, 77, 78, 79, 80, 81, 82] (by decide +kernel) (by decide +kernel)
set_option maxRecDepth 20000 in
theorem gX5_count_X4_numberOffBeyondTold : GoodIn wsX5_count (wsV RX5 154 RX4 yX4_numberOffBeyondTold wsX4_numberOffBeyondTold) := goodIn_app (goodIn_of _ (by decide +kernel)) ggX5_count_X4_numberOffBeyondTold
set_option maxRecDepth 20000 in
theorem ggX5_count_X4_numberThatCannotBeWound : GoodIn wsX5_count wsX4_numberThatCannotBeWound := goodIn_r _ [37, 16, 17, 38, 39, 40, 14, 41, 42, 43, 44, 45, 46, 47, 48, 61, 62, 63, 64, 65, 66, 67, 75, 76, 77, 78, 79, 80, 81, 82] (by decide +kernel) (by decide +kernel)
set_option maxRecDepth 20000 in
theorem gX5_count_X4_numberThatCannotBeWound : GoodIn wsX5_count (wsV RX5 157 RX4 yX4_numberThatCannotBeWound wsX4_numberThatCannotBeWound) := goodIn_app (goodIn_of _ (by decide +kernel)) ggX5_count_X4_numberThatCannotBeWound
set_option maxRecDepth 20000 in
theorem ggX5_count_X4_timesWoundInAll : GoodIn wsX5_count wsX4_timesWoundInAll := goodIn_r _ [52, 16, 17, 53, 61, 62, 63, 64, 65, 66, 67, 75, 76, 77, 78, 79, 80, 81, 82] (by decide +kernel) (by decide +kernel)
set_option maxRecDepth 20000 in
theorem gX5_count_X4_timesWoundInAll : GoodIn wsX5_count (wsV RX5 163 RX4 yX4_timesWoundInAll wsX4_timesWoundInAll) := goodIn_app (goodIn_of _ (by decide +kernel)) ggX5_count_X4_timesWoundInAll
theorem dX5_count_0 : decode cX5_count 0 = .ok (.iload_n 1, 1) := by decide +kernel
theorem dX5_count_1 : decode cX5_count 1 = .ok (.tableswitch 191 0 13 #[71, 79, 87, 95, 103, 111, 119, 127, 135, 145, 155, 165, 175, 183], 71) := by decide +kernel
theorem dX5_count_72 : decode cX5_count 72 = .ok (.aload_n 0, 1) := by decide +kernel
theorem dX5_count_73 : decode cX5_count 73 = .ok (.getfield 12, 3) := by decide +kernel
theorem dX5_count_76 : decode cX5_count 76 = .ok (.getfield 141, 3) := by decide +kernel
theorem dX5_count_79 : decode cX5_count 79 = .ok (.ireturn, 1) := by decide +kernel
theorem dX5_count_80 : decode cX5_count 80 = .ok (.aload_n 0, 1) := by decide +kernel
theorem dX5_count_81 : decode cX5_count 81 = .ok (.getfield 12, 3) := by decide +kernel
theorem dX5_count_84 : decode cX5_count 84 = .ok (.getfield 144, 3) := by decide +kernel
theorem dX5_count_87 : decode cX5_count 87 = .ok (.ireturn, 1) := by decide +kernel
theorem dX5_count_88 : decode cX5_count 88 = .ok (.aload_n 0, 1) := by decide +kernel
theorem dX5_count_89 : decode cX5_count 89 = .ok (.getfield 12, 3) := by decide +kernel
theorem dX5_count_92 : decode cX5_count 92 = .ok (.getfield 147, 3) := by decide +kernel
theorem dX5_count_95 : decode cX5_count 95 = .ok (.ireturn, 1) := by decide +kernel
theorem dX5_count_96 : decode cX5_count 96 = .ok (.aload_n 0, 1) := by decide +kernel
theorem dX5_count_97 : decode cX5_count 97 = .ok (.getfield 12, 3) := by decide +kernel
theorem dX5_count_100 : decode cX5_count 100 = .ok (.invokevirtual 150, 3) := by decide +kernel
theorem dX5_count_103 : decode cX5_count 103 = .ok (.ireturn, 1) := by decide +kernel
theorem dX5_count_104 : decode cX5_count 104 = .ok (.aload_n 0, 1) := by decide +kernel
theorem dX5_count_105 : decode cX5_count 105 = .ok (.getfield 12, 3) := by decide +kernel
theorem dX5_count_108 : decode cX5_count 108 = .ok (.invokevirtual 154, 3) := by decide +kernel
theorem dX5_count_111 : decode cX5_count 111 = .ok (.ireturn, 1) := by decide +kernel
theorem dX5_count_112 : decode cX5_count 112 = .ok (.aload_n 0, 1) := by decide +kernel
theorem dX5_count_113 : decode cX5_count 113 = .ok (.getfield 12, 3) := by decide +kernel
theorem dX5_count_116 : decode cX5_count 116 = .ok (.invokevirtual 157, 3) := by decide +kernel
theorem dX5_count_119 : decode cX5_count 119 = .ok (.ireturn, 1) := by decide +kernel
theorem dX5_count_120 : decode cX5_count 120 = .ok (.aload_n 0, 1) := by decide +kernel
theorem dX5_count_121 : decode cX5_count 121 = .ok (.getfield 12, 3) := by decide +kernel
theorem dX5_count_124 : decode cX5_count 124 = .ok (.getfield 160, 3) := by decide +kernel
theorem dX5_count_127 : decode cX5_count 127 = .ok (.ireturn, 1) := by decide +kernel
theorem dX5_count_128 : decode cX5_count 128 = .ok (.aload_n 0, 1) := by decide +kernel
theorem dX5_count_129 : decode cX5_count 129 = .ok (.getfield 12, 3) := by decide +kernel
theorem dX5_count_132 : decode cX5_count 132 = .ok (.invokevirtual 163, 3) := by decide +kernel
theorem dX5_count_135 : decode cX5_count 135 = .ok (.ireturn, 1) := by decide +kernel
theorem dX5_count_136 : decode cX5_count 136 = .ok (.aload_n 0, 1) := by decide +kernel
theorem dX5_count_137 : decode cX5_count 137 = .ok (.getfield 12, 3) := by decide +kernel
theorem dX5_count_140 : decode cX5_count 140 = .ok (.getfield 118, 3) := by decide +kernel
theorem dX5_count_143 : decode cX5_count 143 = .ok (.iconst 0, 1) := by decide +kernel
theorem dX5_count_144 : decode cX5_count 144 = .ok (.iaload, 1) := by decide +kernel
theorem dX5_count_145 : decode cX5_count 145 = .ok (.ireturn, 1) := by decide +kernel
theorem dX5_count_146 : decode cX5_count 146 = .ok (.aload_n 0, 1) := by decide +kernel
theorem dX5_count_147 : decode cX5_count 147 = .ok (.getfield 12, 3) := by decide +kernel
theorem dX5_count_150 : decode cX5_count 150 = .ok (.getfield 118, 3) := by decide +kernel
theorem dX5_count_153 : decode cX5_count 153 = .ok (.iconst 1, 1) := by decide +kernel
theorem dX5_count_154 : decode cX5_count 154 = .ok (.iaload, 1) := by decide +kernel
theorem dX5_count_155 : decode cX5_count 155 = .ok (.ireturn, 1) := by decide +kernel
theorem dX5_count_156 : decode cX5_count 156 = .ok (.aload_n 0, 1) := by decide +kernel
theorem dX5_count_157 : decode cX5_count 157 = .ok (.getfield 12, 3) := by decide +kernel
theorem dX5_count_160 : decode cX5_count 160 = .ok (.getfield 118, 3) := by decide +kernel
theorem dX5_count_163 : decode cX5_count 163 = .ok (.iconst 2, 1) := by decide +kernel
theorem dX5_count_164 : decode cX5_count 164 = .ok (.iaload, 1) := by decide +kernel
theorem dX5_count_165 : decode cX5_count 165 = .ok (.ireturn, 1) := by decide +kernel
theorem dX5_count_166 : decode cX5_count 166 = .ok (.aload_n 0, 1) := by decide +kernel
theorem dX5_count_167 : decode cX5_count 167 = .ok (.getfield 12, 3) := by decide +kernel
theorem dX5_count_170 : decode cX5_count 170 = .ok (.getfield 118, 3) := by decide +kernel
theorem dX5_count_173 : decode cX5_count 173 = .ok (.iconst 3, 1) := by decide +kernel
theorem dX5_count_174 : decode cX5_count 174 = .ok (.iaload, 1) := by decide +kernel
theorem dX5_count_175 : decode cX5_count 175 = .ok (.ireturn, 1) := by decide +kernel
theorem dX5_count_176 : decode cX5_count 176 = .ok (.aload_n 0, 1) := by decide +kernel
theorem dX5_count_177 : decode cX5_count 177 = .ok (.getfield 34, 3) := by decide +kernel
theorem dX5_count_180 : decode cX5_count 180 = .ok (.getfield 166, 3) := by decide +kernel
theorem dX5_count_183 : decode cX5_count 183 = .ok (.ireturn, 1) := by decide +kernel
theorem dX5_count_184 : decode cX5_count 184 = .ok (.aload_n 0, 1) := by decide +kernel
theorem dX5_count_185 : decode cX5_count 185 = .ok (.getfield 19, 3) := by decide +kernel
theorem dX5_count_188 : decode cX5_count 188 = .ok (.getfield 169, 3) := by decide +kernel
theorem dX5_count_191 : decode cX5_count 191 = .ok (.ireturn, 1) := by decide +kernel
theorem dX5_count_192 : decode cX5_count 192 = .ok (.bipush (-2), 2) := by decide +kernel
theorem dX5_count_194 : decode cX5_count 194 = .ok (.ireturn, 1) := by decide +kernel
set_option maxRecDepth 20000 in
theorem ggX5_takes_X5_chooseRow : GoodIn wsX5_takes wsX5_chooseRow := goodIn_r _ [7, 2, 1, 8, 9, 10, 11, 12, 13, 14, 15, 16, 17, 18, 19, 20, 54, 55, 56, 57, 58, 59, 60, 61, 62, 63, 64, 65, 66, 67, 68, 69] (by decide +kernel) (by decide +kernel)
set_option maxRecDepth 20000 in
theorem gX5_takes_X5_chooseRow : GoodIn wsX5_takes (wsV RX5 71 RX5 yX5_chooseRow wsX5_chooseRow) := goodIn_app (goodIn_of _ (by decide +kernel)) ggX5_takes_X5_chooseRow
set_option maxRecDepth 20000 in
theorem ggX5_takes_X4_minutesOf : GoodIn wsX5_takes wsX4_minutesOf := goodIn_r _ [25, 26, 27, 28, 29, 30, 31, 32, 33, 34, 35, 36, 13, 37, 15, 20, 38, 39, 40, 24, 41, 42, 43, 44, 45, 46, 47, 48, 49, 50, 51, 52, 53, 68, 69, 61, 62, 63, 64, 65, 66, 67, 70, 71, 72, 73, 74, 75, 76, 77] (by decide +kernel) (by decide +kernel)
set_option maxRecDepth 20000 in
theorem gX5_takes_X4_minutesOf : GoodIn wsX5_takes (wsV RX5 172 RX4 yX4_minutesOf wsX4_minutesOf) := goodIn_app (goodIn_of _ (by decide +kernel)) ggX5_takes_X4_minutesOf
theorem dX5_takes_0 : decode cX5_takes 0 = .ok (.aload_n 0, 1) := by decide +kernel
theorem dX5_takes_1 : decode cX5_takes 1 = .ok (.iload_n 1, 1) := by decide +kernel
theorem dX5_takes_2 : decode cX5_takes 2 = .ok (.invokevirtual 71, 3) := by decide +kernel
theorem dX5_takes_5 : decode cX5_takes 5 = .ok (.istore_n 2, 1) := by decide +kernel
theorem dX5_takes_6 : decode cX5_takes 6 = .ok (.iload_n 2, 1) := by decide +kernel
theorem dX5_takes_7 : decode cX5_takes 7 = .ok (.ifCond .ge 7, 3) := by decide +kernel
theorem dX5_takes_10 : decode cX5_takes 10 = .ok (.iload_n 2, 1) := by decide +kernel
theorem dX5_takes_11 : decode cX5_takes 11 = .ok (.goto 14, 3) := by decide +kernel
theorem dX5_takes_14 : decode cX5_takes 14 = .ok (.aload_n 0, 1) := by decide +kernel
theorem dX5_takes_15 : decode cX5_takes 15 = .ok (.getfield 12, 3) := by decide +kernel
theorem dX5_takes_18 : decode cX5_takes 18 = .ok (.aload_n 0, 1) := by decide +kernel
theorem dX5_takes_19 : decode cX5_takes 19 = .ok (.getfield 41, 3) := by decide +kernel
theorem dX5_takes_22 : decode cX5_takes 22 = .ok (.invokevirtual 172, 3) := by decide +kernel
theorem dX5_takes_25 : decode cX5_takes 25 = .ok (.ireturn, 1) := by decide +kernel
set_option maxRecDepth 20000 in
theorem ggX5_lasts_X4_hasClock : GoodIn wsX5_lasts wsX4_hasClock := goodIn_r _ [6, 7, 46, 47, 48, 49, 50, 51, 52] (by decide +kernel) (by decide +kernel)
set_option maxRecDepth 20000 in
theorem gX5_lasts_X4_hasClock : GoodIn wsX5_lasts (wsV RX5 84 RX4 yX4_hasClock wsX4_hasClock) := goodIn_app (goodIn_of _ (by decide +kernel)) ggX5_lasts_X4_hasClock
set_option maxRecDepth 20000 in
theorem ggX5_lasts_X4_daysUntilOff : GoodIn wsX5_lasts wsX4_daysUntilOff := goodIn_r _ [11, 12, 13, 14, 3, 4, 5, 6, 7, 15, 16, 17, 18, 19, 20, 21, 22, 23, 24, 25, 26, 27, 28, 29, 30, 31, 32, 33, 34, 35, 36, 37, 38, 46, 47, 48, 49, 50, 51, 52, 53, 54, 55, 56, 57, 58, 59, 60] (by decide +kernel) (by decide +kernel)
set_option maxRecDepth 20000 in
theorem gX5_lasts_X4_daysUntilOff : GoodIn wsX5_lasts (wsV RX5 175 RX4 yX4_daysUntilOff wsX4_daysUntilOff) := goodIn_app (goodIn_of _ (by decide +kernel)) ggX5_lasts_X4_daysUntilOff
theorem dX5_lasts_0 : decode cX5_lasts 0 = .ok (.aload_n 0, 1) := by decide +kernel
theorem dX5_lasts_1 : decode cX5_lasts 1 = .ok (.getfield 12, 3) := by decide +kernel
theorem dX5_lasts_4 : decode cX5_lasts 4 = .ok (.iload_n 1, 1) := by decide +kernel
theorem dX5_lasts_5 : decode cX5_lasts 5 = .ok (.invokevirtual 84, 3) := by decide +kernel
theorem dX5_lasts_8 : decode cX5_lasts 8 = .ok (.ifCond .eq 14, 3) := by decide +kernel
theorem dX5_lasts_11 : decode cX5_lasts 11 = .ok (.aload_n 0, 1) := by decide +kernel
theorem dX5_lasts_12 : decode cX5_lasts 12 = .ok (.getfield 12, 3) := by decide +kernel
theorem dX5_lasts_15 : decode cX5_lasts 15 = .ok (.iload_n 1, 1) := by decide +kernel
theorem dX5_lasts_16 : decode cX5_lasts 16 = .ok (.invokevirtual 175, 3) := by decide +kernel
theorem dX5_lasts_19 : decode cX5_lasts 19 = .ok (.goto 4, 3) := by decide +kernel
theorem dX5_lasts_22 : decode cX5_lasts 22 = .ok (.iconst (-1), 1) := by decide +kernel
theorem dX5_lasts_23 : decode cX5_lasts 23 = .ok (.ireturn, 1) := by decide +kernel
set_option maxRecDepth 20000 in
theorem ggX5_needs_X4_tellDaysUntilOff : GoodIn wsX5_needs wsX4_tellDaysUntilOff := goodIn_r _ [8, 9, 10, 11, 12, 7, 13, 14, 15, 16, 17, 18, 19, 20, 21, 22, 23, 24, 25, 26, 27, 28, 29, 30, 31, 32, 33, 34, 35, 36, 37, 38, 39, 40, 41, 42, 43, 55, 56, 57, 58, 59, 60, 61, 62, 63, 64, 65, 66, 67, 68, 69] (by decide +kernel) (by decide +kernel)
set_option maxRecDepth 20000 in
theorem gX5_needs_X4_tellDaysUntilOff : GoodIn wsX5_needs (wsV RX5 178 RX4 yX4_tellDaysUntilOff wsX4_tellDaysUntilOff) := goodIn_app (goodIn_of _ (by decide +kernel)) ggX5_needs_X4_tellDaysUntilOff
set_option maxRecDepth 20000 in
theorem ggX5_needs_X4_rankOf : GoodIn wsX5_needs wsX4_rankOf := goodIn_r _ [47, 9, 16, 17, 18, 7, 19, 55, 56, 57, 58, 59, 60, 61] (by decide +kernel) (by decide +kernel)
set_option maxRecDepth 20000 in
theorem gX5_needs_X4_rankOf : GoodIn wsX5_needs (wsV RX5 182 RX4 yX4_rankOf wsX4_rankOf) := goodIn_app (goodIn_of _ (by decide +kernel)) ggX5_needs_X4_rankOf
theorem dX5_needs_0 : decode cX5_needs 0 = .ok (.iload_n 1, 1) := by decide +kernel
theorem dX5_needs_1 : decode cX5_needs 1 = .ok (.ifCond .lt 14, 3) := by decide +kernel
theorem dX5_needs_4 : decode cX5_needs 4 = .ok (.iload_n 1, 1) := by decide +kernel
theorem dX5_needs_5 : decode cX5_needs 5 = .ok (.aload_n 0, 1) := by decide +kernel
theorem dX5_needs_6 : decode cX5_needs 6 = .ok (.getfield 12, 3) := by decide +kernel
theorem dX5_needs_9 : decode cX5_needs 9 = .ok (.getfield 144, 3) := by decide +kernel
theorem dX5_needs_12 : decode cX5_needs 12 = .ok (.if_icmp .lt 5, 3) := by decide +kernel
theorem dX5_needs_15 : decode cX5_needs 15 = .ok (.iconst (-1), 1) := by decide +kernel
theorem dX5_needs_16 : decode cX5_needs 16 = .ok (.ireturn, 1) := by decide +kernel
theorem dX5_needs_17 : decode cX5_needs 17 = .ok (.aload_n 0, 1) := by decide +kernel
theorem dX5_needs_18 : decode cX5_needs 18 = .ok (.getfield 12, 3) := by decide +kernel
theorem dX5_needs_21 : decode cX5_needs 21 = .ok (.aload_n 0, 1) := by decide +kernel
theorem dX5_needs_22 : decode cX5_needs 22 = .ok (.getfield 45, 3) := by decide +kernel
theorem dX5_needs_25 : decode cX5_needs 25 = .ok (.invokevirtual 178, 3) := by decide +kernel
theorem dX5_needs_28 : decode cX5_needs 28 = .ok (.iconst 0, 1) := by decide +kernel
theorem dX5_needs_29 : decode cX5_needs 29 = .ok (.istore_n 2, 1) := by decide +kernel
theorem dX5_needs_30 : decode cX5_needs 30 = .ok (.iload_n 2, 1) := by decide +kernel
theorem dX5_needs_31 : decode cX5_needs 31 = .ok (.aload_n 0, 1) := by decide +kernel
theorem dX5_needs_32 : decode cX5_needs 32 = .ok (.getfield 12, 3) := by decide +kernel
theorem dX5_needs_35 : decode cX5_needs 35 = .ok (.getfield 144, 3) := by decide +kernel
theorem dX5_needs_38 : decode cX5_needs 38 = .ok (.if_icmp .ge 27, 3) := by decide +kernel
theorem dX5_needs_41 : decode cX5_needs 41 = .ok (.aload_n 0, 1) := by decide +kernel
theorem dX5_needs_42 : decode cX5_needs 42 = .ok (.getfield 12, 3) := by decide +kernel
theorem dX5_needs_45 : decode cX5_needs 45 = .ok (.iload_n 2, 1) := by decide +kernel
theorem dX5_needs_46 : decode cX5_needs 46 = .ok (.aload_n 0, 1) := by decide +kernel
theorem dX5_needs_47 : decode cX5_needs 47 = .ok (.getfield 45, 3) := by decide +kernel
theorem dX5_needs_50 : decode cX5_needs 50 = .ok (.invokevirtual 182, 3) := by decide +kernel
theorem dX5_needs_53 : decode cX5_needs 53 = .ok (.iload_n 1, 1) := by decide +kernel
theorem dX5_needs_54 : decode cX5_needs 54 = .ok (.if_icmp .ne 5, 3) := by decide +kernel
theorem dX5_needs_57 : decode cX5_needs 57 = .ok (.iload_n 2, 1) := by decide +kernel
theorem dX5_needs_58 : decode cX5_needs 58 = .ok (.ireturn, 1) := by decide +kernel
theorem dX5_needs_59 : decode cX5_needs 59 = .ok (.iinc 2 1, 3) := by decide +kernel
theorem dX5_needs_62 : decode cX5_needs 62 = .ok (.goto (-32), 3) := by decide +kernel
theorem dX5_needs_65 : decode cX5_needs 65 = .ok (.iconst (-1), 1) := by decide +kernel
theorem dX5_needs_66 : decode cX5_needs 66 = .ok (.ireturn, 1) := by decide +kernel
set_option maxRecDepth 20000 in
theorem ggX5_ladderFor_X4_rungsOutOfReach : GoodIn wsX5_ladderFor wsX4_rungsOutOfReach := goodIn_r _ [7, 8, 9, 10, 11, 12, 13, 14, 15, 16, 17, 6, 18, 19, 20, 21, 22, 23, 24, 32, 33, 34, 35, 36, 37, 38, 39, 40, 41, 42, 43, 44, 45, 46] (by decide +kernel) (by decide +kernel)
set_option maxRecDepth 20000 in
theorem gX5_ladderFor_X4_rungsOutOfReach : GoodIn wsX5_ladderFor (wsV RX5 186 RX4 yX4_rungsOutOfReach wsX4_rungsOutOfReach) := goodIn_app (goodIn_of _ (by decide +kernel)) ggX5_ladderFor_X4_rungsOutOfReach
theorem dX5_ladderFor_0 : decode cX5_ladderFor 0 = .ok (.aload_n 0, 1) := by decide +kernel
theorem dX5_ladderFor_1 : decode cX5_ladderFor 1 = .ok (.getfield 12, 3) := by decide +kernel
theorem dX5_ladderFor_4 : decode cX5_ladderFor 4 = .ok (.getfield 147, 3) := by decide +kernel
theorem dX5_ladderFor_7 : decode cX5_ladderFor 7 = .ok (.iconst 4, 1) := by decide +kernel
theorem dX5_ladderFor_8 : decode cX5_ladderFor 8 = .ok (.if_icmp .lt 6, 3) := by decide +kernel
theorem dX5_ladderFor_11 : decode cX5_ladderFor 11 = .ok (.bipush (-4), 2) := by decide +kernel
theorem dX5_ladderFor_13 : decode cX5_ladderFor 13 = .ok (.ireturn, 1) := by decide +kernel
theorem dX5_ladderFor_14 : decode cX5_ladderFor 14 = .ok (.aload_n 0, 1) := by decide +kernel
theorem dX5_ladderFor_15 : decode cX5_ladderFor 15 = .ok (.getfield 12, 3) := by decide +kernel
theorem dX5_ladderFor_18 : decode cX5_ladderFor 18 = .ok (.invokevirtual 186, 3) := by decide +kernel
theorem dX5_ladderFor_21 : decode cX5_ladderFor 21 = .ok (.istore_n 1, 1) := by decide +kernel
theorem dX5_ladderFor_22 : decode cX5_ladderFor 22 = .ok (.iload_n 1, 1) := by decide +kernel
theorem dX5_ladderFor_23 : decode cX5_ladderFor 23 = .ok (.ifCond .ne 8, 3) := by decide +kernel
theorem dX5_ladderFor_26 : decode cX5_ladderFor 26 = .ok (.bipush (-6), 2) := by decide +kernel
theorem dX5_ladderFor_28 : decode cX5_ladderFor 28 = .ok (.goto 4, 3) := by decide +kernel
theorem dX5_ladderFor_31 : decode cX5_ladderFor 31 = .ok (.iload_n 1, 1) := by decide +kernel
theorem dX5_ladderFor_32 : decode cX5_ladderFor 32 = .ok (.ireturn, 1) := by decide +kernel
set_option maxRecDepth 20000 in
theorem ggX5_wayRound_X5_chooseRow : GoodIn wsX5_wayRound wsX5_chooseRow := goodIn_r _ [7, 2, 1, 8, 9, 10, 11, 12, 13, 14, 15, 16, 17, 18, 19, 20, 58, 59, 60, 61, 62, 63, 64, 65, 66, 67, 68, 69, 70, 71, 72, 73] (by decide +kernel) (by decide +kernel)
set_option maxRecDepth 20000 in
theorem gX5_wayRound_X5_chooseRow : GoodIn wsX5_wayRound (wsV RX5 71 RX5 yX5_chooseRow wsX5_chooseRow) := goodIn_app (goodIn_of _ (by decide +kernel)) ggX5_wayRound_X5_chooseRow
set_option maxRecDepth 20000 in
theorem ggX5_wayRound_X4_minutesOf : GoodIn wsX5_wayRound wsX4_minutesOf := goodIn_r _ [25, 26, 27, 28, 29, 30, 31, 32, 33, 34, 35, 36, 13, 37, 15, 20, 38, 39, 40, 24, 41, 42, 43, 44, 45, 46, 47, 48, 49, 50, 51, 52, 53, 72, 73, 65, 66, 67, 68, 69, 70, 71, 74, 75, 76, 77, 78, 79, 80, 81] (by decide +kernel) (by decide +kernel)
set_option maxRecDepth 20000 in
theorem gX5_wayRound_X4_minutesOf : GoodIn wsX5_wayRound (wsV RX5 172 RX4 yX4_minutesOf wsX4_minutesOf) := goodIn_app (goodIn_of _ (by decide +kernel)) ggX5_wayRound_X4_minutesOf
set_option maxRecDepth 20000 in
theorem ggX5_wayRound_X3_turnRound : GoodIn wsX5_wayRound wsX3_turnRound := goodIn_r _ [57, 15, 20, 72, 73] (by decide +kernel) (by decide +kernel)
set_option maxRecDepth 20000 in
theorem gX5_wayRound_X3_turnRound : GoodIn wsX5_wayRound (wsV RX5 189 RX3 yX3_turnRound wsX3_turnRound) := goodIn_app (goodIn_of _ (by decide +kernel)) ggX5_wayRound_X3_turnRound
theorem dX5_wayRound_0 : decode cX5_wayRound 0 = .ok (.aload_n 0, 1) := by decide +kernel
theorem dX5_wayRound_1 : decode cX5_wayRound 1 = .ok (.iload_n 1, 1) := by decide +kernel
theorem dX5_wayRound_2 : decode cX5_wayRound 2 = .ok (.invokevirtual 71, 3) := by decide +kernel
theorem dX5_wayRound_5 : decode cX5_wayRound 5 = .ok (.istore_n 2, 1) := by decide +kernel
theorem dX5_wayRound_6 : decode cX5_wayRound 6 = .ok (.iload_n 2, 1) := by decide +kernel
theorem dX5_wayRound_7 : decode cX5_wayRound 7 = .ok (.ifCond .ge 5, 3) := by decide +kernel
theorem dX5_wayRound_10 : decode cX5_wayRound 10 = .ok (.iload_n 2, 1) := by decide +kernel
theorem dX5_wayRound_11 : decode cX5_wayRound 11 = .ok (.ireturn, 1) := by decide +kernel
theorem dX5_wayRound_12 : decode cX5_wayRound 12 = .ok (.aload_n 0, 1) := by decide +kernel
theorem dX5_wayRound_13 : decode cX5_wayRound 13 = .ok (.getfield 12, 3) := by decide +kernel
theorem dX5_wayRound_16 : decode cX5_wayRound 16 = .ok (.aload_n 0, 1) := by decide +kernel
theorem dX5_wayRound_17 : decode cX5_wayRound 17 = .ok (.getfield 41, 3) := by decide +kernel
theorem dX5_wayRound_20 : decode cX5_wayRound 20 = .ok (.invokevirtual 172, 3) := by decide +kernel
theorem dX5_wayRound_23 : decode cX5_wayRound 23 = .ok (.istore_n 3, 1) := by decide +kernel
theorem dX5_wayRound_24 : decode cX5_wayRound 24 = .ok (.aload_n 0, 1) := by decide +kernel
theorem dX5_wayRound_25 : decode cX5_wayRound 25 = .ok (.getfield 41, 3) := by decide +kernel
theorem dX5_wayRound_28 : decode cX5_wayRound 28 = .ok (.invokevirtual 189, 3) := by decide +kernel
theorem dX5_wayRound_31 : decode cX5_wayRound 31 = .ok (.aload_n 0, 1) := by decide +kernel
theorem dX5_wayRound_32 : decode cX5_wayRound 32 = .ok (.getfield 12, 3) := by decide +kernel
theorem dX5_wayRound_35 : decode cX5_wayRound 35 = .ok (.aload_n 0, 1) := by decide +kernel
theorem dX5_wayRound_36 : decode cX5_wayRound 36 = .ok (.getfield 41, 3) := by decide +kernel
theorem dX5_wayRound_39 : decode cX5_wayRound 39 = .ok (.invokevirtual 172, 3) := by decide +kernel
theorem dX5_wayRound_42 : decode cX5_wayRound 42 = .ok (.istore 4, 2) := by decide +kernel
theorem dX5_wayRound_44 : decode cX5_wayRound 44 = .ok (.iload_n 3, 1) := by decide +kernel
theorem dX5_wayRound_45 : decode cX5_wayRound 45 = .ok (.iload 4, 2) := by decide +kernel
theorem dX5_wayRound_47 : decode cX5_wayRound 47 = .ok (.if_icmp .ne 5, 3) := by decide +kernel
theorem dX5_wayRound_50 : decode cX5_wayRound 50 = .ok (.iconst 2, 1) := by decide +kernel
theorem dX5_wayRound_51 : decode cX5_wayRound 51 = .ok (.ireturn, 1) := by decide +kernel
theorem dX5_wayRound_52 : decode cX5_wayRound 52 = .ok (.iload_n 3, 1) := by decide +kernel
theorem dX5_wayRound_53 : decode cX5_wayRound 53 = .ok (.iload 4, 2) := by decide +kernel
theorem dX5_wayRound_55 : decode cX5_wayRound 55 = .ok (.if_icmp .ge 7, 3) := by decide +kernel
theorem dX5_wayRound_58 : decode cX5_wayRound 58 = .ok (.iconst 0, 1) := by decide +kernel
theorem dX5_wayRound_59 : decode cX5_wayRound 59 = .ok (.goto 4, 3) := by decide +kernel
theorem dX5_wayRound_62 : decode cX5_wayRound 62 = .ok (.iconst 1, 1) := by decide +kernel
theorem dX5_wayRound_63 : decode cX5_wayRound 63 = .ok (.ireturn, 1) := by decide +kernel
set_option maxRecDepth 20000 in
theorem ggX5_undo_X1_takeBack : GoodIn wsX5_undo wsX1_takeBack := goodIn_r _ [8, 9, 10, 11, 12, 13, 14, 15, 16, 17, 18, 19, 20, 21, 22, 23, 24, 25, 26, 27, 28, 29, 30, 31, 32, 33, 34, 35, 36, 37, 38, 39, 47, 48, 49, 50, 51, 52, 53, 54, 55, 56, 57, 58, 59, 60, 61, 62, 63] (by decide +kernel) (by decide +kernel)
set_option maxRecDepth 20000 in
theorem gX5_undo_X1_takeBack : GoodIn wsX5_undo (wsV RX5 210 RX1 yX1_takeBack wsX1_takeBack) := goodIn_app (goodIn_of _ (by decide +kernel)) ggX5_undo_X1_takeBack
theorem dX5_undo_0 : decode cX5_undo 0 = .ok (.aload_n 0, 1) := by decide +kernel
theorem dX5_undo_1 : decode cX5_undo 1 = .ok (.getfield 19, 3) := by decide +kernel
theorem dX5_undo_4 : decode cX5_undo 4 = .ok (.aload_n 0, 1) := by decide +kernel
theorem dX5_undo_5 : decode cX5_undo 5 = .ok (.getfield 12, 3) := by decide +kernel
theorem dX5_undo_8 : decode cX5_undo 8 = .ok (.invokevirtual 210, 3) := by decide +kernel
theorem dX5_undo_11 : decode cX5_undo 11 = .ok (.ifCond .eq 13, 3) := by decide +kernel
theorem dX5_undo_14 : decode cX5_undo 14 = .ok (.aload_n 0, 1) := by decide +kernel
theorem dX5_undo_15 : decode cX5_undo 15 = .ok (.getfield 19, 3) := by decide +kernel
theorem dX5_undo_18 : decode cX5_undo 18 = .ok (.getfield 169, 3) := by decide +kernel
theorem dX5_undo_21 : decode cX5_undo 21 = .ok (.goto 5, 3) := by decide +kernel
theorem dX5_undo_24 : decode cX5_undo 24 = .ok (.bipush (-5), 2) := by decide +kernel
theorem dX5_undo_26 : decode cX5_undo 26 = .ok (.ireturn, 1) := by decide +kernel
set_option maxRecDepth 20000 in
theorem ggX5_keptIfDone_X1_keepPrepared : GoodIn wsX5_keptIfDone wsX1_keepPrepared := goodIn_r _ [6, 7, 8, 9, 10, 5, 11, 12, 20, 21] (by decide +kernel) (by decide +kernel)
set_option maxRecDepth 20000 in
theorem gX5_keptIfDone_X1_keepPrepared : GoodIn wsX5_keptIfDone (wsV RX5 217 RX1 yX1_keepPrepared wsX1_keepPrepared) := goodIn_app (goodIn_of _ (by decide +kernel)) ggX5_keptIfDone_X1_keepPrepared
theorem dX5_keptIfDone_0 : decode cX5_keptIfDone 0 = .ok (.iload_n 1, 1) := by decide +kernel
theorem dX5_keptIfDone_1 : decode cX5_keptIfDone 1 = .ok (.ifCond .lt 10, 3) := by decide +kernel
theorem dX5_keptIfDone_4 : decode cX5_keptIfDone 4 = .ok (.aload_n 0, 1) := by decide +kernel
theorem dX5_keptIfDone_5 : decode cX5_keptIfDone 5 = .ok (.getfield 19, 3) := by decide +kernel
theorem dX5_keptIfDone_8 : decode cX5_keptIfDone 8 = .ok (.invokevirtual 217, 3) := by decide +kernel
theorem dX5_keptIfDone_11 : decode cX5_keptIfDone 11 = .ok (.iload_n 1, 1) := by decide +kernel
theorem dX5_keptIfDone_12 : decode cX5_keptIfDone 12 = .ok (.ireturn, 1) := by decide +kernel
set_option maxRecDepth 20000 in
theorem ggX5_chooseRow_X3_clear : GoodIn wsX5_chooseRow wsX3_clear := goodIn_r _ [9, 10, 30, 31] (by decide +kernel) (by decide +kernel)
set_option maxRecDepth 20000 in
theorem gX5_chooseRow_X3_clear : GoodIn wsX5_chooseRow (wsV RX5 220 RX3 yX3_clear wsX3_clear) := goodIn_app (goodIn_of _ (by decide +kernel)) ggX5_chooseRow_X3_clear
set_option maxRecDepth 20000 in
theorem ggX5_chooseRow_X3_add : GoodIn wsX5_chooseRow wsX3_add := goodIn_r _ [14, 10, 15, 30, 31] (by decide +kernel) (by decide +kernel)
set_option maxRecDepth 20000 in
theorem gX5_chooseRow_X3_add : GoodIn wsX5_chooseRow (wsV RX5 223 RX3 yX3_add wsX3_add) := goodIn_app (goodIn_of _ (by decide +kernel)) ggX5_chooseRow_X3_add
theorem dX5_chooseRow_0 : decode cX5_chooseRow 0 = .ok (.iload_n 1, 1) := by decide +kernel
theorem dX5_chooseRow_1 : decode cX5_chooseRow 1 = .ok (.ifCond .ge 6, 3) := by decide +kernel
theorem dX5_chooseRow_4 : decode cX5_chooseRow 4 = .ok (.bipush (-2), 2) := by decide +kernel
theorem dX5_chooseRow_6 : decode cX5_chooseRow 6 = .ok (.ireturn, 1) := by decide +kernel
theorem dX5_chooseRow_7 : decode cX5_chooseRow 7 = .ok (.aload_n 0, 1) := by decide +kernel
theorem dX5_chooseRow_8 : decode cX5_chooseRow 8 = .ok (.getfield 41, 3) := by decide +kernel
theorem dX5_chooseRow_11 : decode cX5_chooseRow 11 = .ok (.invokevirtual 220, 3) := by decide +kernel
theorem dX5_chooseRow_14 : decode cX5_chooseRow 14 = .ok (.iconst 0, 1) := by decide +kernel
theorem dX5_chooseRow_15 : decode cX5_chooseRow 15 = .ok (.istore_n 2, 1) := by decide +kernel
theorem dX5_chooseRow_16 : decode cX5_chooseRow 16 = .ok (.iload_n 2, 1) := by decide +kernel
theorem dX5_chooseRow_17 : decode cX5_chooseRow 17 = .ok (.aload_n 0, 1) := by decide +kernel
theorem dX5_chooseRow_18 : decode cX5_chooseRow 18 = .ok (.getfield 12, 3) := by decide +kernel
theorem dX5_chooseRow_21 : decode cX5_chooseRow 21 = .ok (.getfield 144, 3) := by decide +kernel
theorem dX5_chooseRow_24 : decode cX5_chooseRow 24 = .ok (.if_icmp .ge 27, 3) := by decide +kernel
theorem dX5_chooseRow_27 : decode cX5_chooseRow 27 = .ok (.iload_n 1, 1) := by decide +kernel
theorem dX5_chooseRow_28 : decode cX5_chooseRow 28 = .ok (.iload_n 2, 1) := by decide +kernel
theorem dX5_chooseRow_29 : decode cX5_chooseRow 29 = .ok (.ishr, 1) := by decide +kernel
theorem dX5_chooseRow_30 : decode cX5_chooseRow 30 = .ok (.iconst 1, 1) := by decide +kernel
theorem dX5_chooseRow_31 : decode cX5_chooseRow 31 = .ok (.iand, 1) := by decide +kernel
theorem dX5_chooseRow_32 : decode cX5_chooseRow 32 = .ok (.iconst 1, 1) := by decide +kernel
theorem dX5_chooseRow_33 : decode cX5_chooseRow 33 = .ok (.if_icmp .ne 12, 3) := by decide +kernel
theorem dX5_chooseRow_36 : decode cX5_chooseRow 36 = .ok (.aload_n 0, 1) := by decide +kernel
theorem dX5_chooseRow_37 : decode cX5_chooseRow 37 = .ok (.getfield 41, 3) := by decide +kernel
theorem dX5_chooseRow_40 : decode cX5_chooseRow 40 = .ok (.iload_n 2, 1) := by decide +kernel
theorem dX5_chooseRow_41 : decode cX5_chooseRow 41 = .ok (.invokevirtual 223, 3) := by decide +kernel
theorem dX5_chooseRow_44 : decode cX5_chooseRow 44 = .ok (.pop, 1) := by decide +kernel
theorem dX5_chooseRow_45 : decode cX5_chooseRow 45 = .ok (.iinc 2 1, 3) := by decide +kernel
theorem dX5_chooseRow_48 : decode cX5_chooseRow 48 = .ok (.goto (-32), 3) := by decide +kernel
theorem dX5_chooseRow_51 : decode cX5_chooseRow 51 = .ok (.aload_n 0, 1) := by decide +kernel
theorem dX5_chooseRow_52 : decode cX5_chooseRow 52 = .ok (.getfield 41, 3) := by decide +kernel
theorem dX5_chooseRow_55 : decode cX5_chooseRow 55 = .ok (.getfield 226, 3) := by decide +kernel
theorem dX5_chooseRow_58 : decode cX5_chooseRow 58 = .ok (.ifCond .ne 8, 3) := by decide +kernel
theorem dX5_chooseRow_61 : decode cX5_chooseRow 61 = .ok (.bipush (-5), 2) := by decide +kernel
theorem dX5_chooseRow_63 : decode cX5_chooseRow 63 = .ok (.goto 10, 3) := by decide +kernel
theorem dX5_chooseRow_66 : decode cX5_chooseRow 66 = .ok (.aload_n 0, 1) := by decide +kernel
theorem dX5_chooseRow_67 : decode cX5_chooseRow 67 = .ok (.getfield 41, 3) := by decide +kernel
theorem dX5_chooseRow_70 : decode cX5_chooseRow 70 = .ok (.getfield 226, 3) := by decide +kernel
theorem dX5_chooseRow_73 : decode cX5_chooseRow 73 = .ok (.ireturn, 1) := by decide +kernel
theorem dX5_isWithin_0 : decode cX5_isWithin 0 = .ok (.iload_n 0, 1) := by decide +kernel
theorem dX5_isWithin_1 : decode cX5_isWithin 1 = .ok (.iload_n 1, 1) := by decide +kernel
theorem dX5_isWithin_2 : decode cX5_isWithin 2 = .ok (.if_icmp .lt 12, 3) := by decide +kernel
theorem dX5_isWithin_5 : decode cX5_isWithin 5 = .ok (.iload_n 0, 1) := by decide +kernel
theorem dX5_isWithin_6 : decode cX5_isWithin 6 = .ok (.iload_n 2, 1) := by decide +kernel
theorem dX5_isWithin_7 : decode cX5_isWithin 7 = .ok (.if_icmp .gt 7, 3) := by decide +kernel
theorem dX5_isWithin_10 : decode cX5_isWithin 10 = .ok (.iconst 1, 1) := by decide +kernel
theorem dX5_isWithin_11 : decode cX5_isWithin 11 = .ok (.goto 4, 3) := by decide +kernel
theorem dX5_isWithin_14 : decode cX5_isWithin 14 = .ok (.iconst 0, 1) := by decide +kernel
theorem dX5_isWithin_15 : decode cX5_isWithin 15 = .ok (.ireturn, 1) := by decide +kernel
