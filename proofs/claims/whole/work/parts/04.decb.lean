theorem dX5_init_0 : decode cX5_init 0 = .ok (.aload_n 0, 1) := by decide +kernel
theorem dX5_init_1 : decode cX5_init 1 = .ok (.invokespecial 3, 3) := by decide +kernel
theorem dX5_init_4 : decode cX5_init 4 = .ok (.aload_n 0, 1) := by decide +kernel
theorem dX5_init_5 : decode cX5_init 5 = .ok (.new 9, 3) := by decide +kernel
theorem dX5_init_8 : decode cX5_init 8 = .ok (.dup, 1) := by decide +kernel
theorem dX5_init_9 : decode cX5_init 9 = .ok (.invokespecial 11, 3) := by decide +kernel
theorem dX5_init_12 : decode cX5_init 12 = .ok (.putfield 12, 3) := by decide +kernel
theorem dX5_init_15 : decode cX5_init 15 = .ok (.aload_n 0, 1) := by decide +kernel
theorem dX5_init_16 : decode cX5_init 16 = .ok (.new 16, 3) := by decide +kernel
theorem dX5_init_19 : decode cX5_init 19 = .ok (.dup, 1) := by decide +kernel
theorem dX5_init_20 : decode cX5_init 20 = .ok (.invokespecial 18, 3) := by decide +kernel
theorem dX5_init_23 : decode cX5_init 23 = .ok (.putfield 19, 3) := by decide +kernel
theorem dX5_init_26 : decode cX5_init 26 = .ok (.aload_n 0, 1) := by decide +kernel
theorem dX5_init_27 : decode cX5_init 27 = .ok (.iconst 2, 1) := by decide +kernel
theorem dX5_init_28 : decode cX5_init 28 = .ok (.anewarray 9, 3) := by decide +kernel
theorem dX5_init_31 : decode cX5_init 31 = .ok (.putfield 23, 3) := by decide +kernel
theorem dX5_init_34 : decode cX5_init 34 = .ok (.aload_n 0, 1) := by decide +kernel
theorem dX5_init_35 : decode cX5_init 35 = .ok (.iconst 2, 1) := by decide +kernel
theorem dX5_init_36 : decode cX5_init 36 = .ok (.newarray .boolean, 2) := by decide +kernel
theorem dX5_init_38 : decode cX5_init 38 = .ok (.putfield 27, 3) := by decide +kernel
theorem dX5_init_41 : decode cX5_init 41 = .ok (.aload_n 0, 1) := by decide +kernel
theorem dX5_init_42 : decode cX5_init 42 = .ok (.new 31, 3) := by decide +kernel
theorem dX5_init_45 : decode cX5_init 45 = .ok (.dup, 1) := by decide +kernel
theorem dX5_init_46 : decode cX5_init 46 = .ok (.invokespecial 33, 3) := by decide +kernel
theorem dX5_init_49 : decode cX5_init 49 = .ok (.putfield 34, 3) := by decide +kernel
theorem dX5_init_52 : decode cX5_init 52 = .ok (.aload_n 0, 1) := by decide +kernel
theorem dX5_init_53 : decode cX5_init 53 = .ok (.new 38, 3) := by decide +kernel
theorem dX5_init_56 : decode cX5_init 56 = .ok (.dup, 1) := by decide +kernel
theorem dX5_init_57 : decode cX5_init 57 = .ok (.invokespecial 40, 3) := by decide +kernel
theorem dX5_init_60 : decode cX5_init 60 = .ok (.putfield 41, 3) := by decide +kernel
theorem dX5_init_63 : decode cX5_init 63 = .ok (.aload_n 0, 1) := by decide +kernel
theorem dX5_init_64 : decode cX5_init 64 = .ok (.bipush 16, 2) := by decide +kernel
theorem dX5_init_66 : decode cX5_init 66 = .ok (.newarray .int, 2) := by decide +kernel
theorem dX5_init_68 : decode cX5_init 68 = .ok (.putfield 45, 3) := by decide +kernel
theorem dX5_init_71 : decode cX5_init 71 = .ok (.iconst 0, 1) := by decide +kernel
theorem dX5_init_72 : decode cX5_init 72 = .ok (.istore_n 1, 1) := by decide +kernel
theorem dX5_init_73 : decode cX5_init 73 = .ok (.iload_n 1, 1) := by decide +kernel
theorem dX5_init_74 : decode cX5_init 74 = .ok (.iconst 2, 1) := by decide +kernel
theorem dX5_init_75 : decode cX5_init 75 = .ok (.if_icmp .ge 22, 3) := by decide +kernel
theorem dX5_init_78 : decode cX5_init 78 = .ok (.aload_n 0, 1) := by decide +kernel
theorem dX5_init_79 : decode cX5_init 79 = .ok (.getfield 23, 3) := by decide +kernel
theorem dX5_init_82 : decode cX5_init 82 = .ok (.iload_n 1, 1) := by decide +kernel
theorem dX5_init_83 : decode cX5_init 83 = .ok (.new 9, 3) := by decide +kernel
theorem dX5_init_86 : decode cX5_init 86 = .ok (.dup, 1) := by decide +kernel
theorem dX5_init_87 : decode cX5_init 87 = .ok (.invokespecial 11, 3) := by decide +kernel
theorem dX5_init_90 : decode cX5_init 90 = .ok (.aastore, 1) := by decide +kernel
theorem dX5_init_91 : decode cX5_init 91 = .ok (.iinc 1 1, 3) := by decide +kernel
theorem dX5_init_94 : decode cX5_init 94 = .ok (.goto (-21), 3) := by decide +kernel
theorem dX5_init_97 : decode cX5_init 97 = .ok (.return_, 1) := by decide +kernel
set_option maxRecDepth 20000 in
theorem ggX5_set_X1_prepare : GoodIn wsX5_set wsX1_prepare := goodIn_r _ [7, 8, 9, 10, 11, 12, 13, 14, 15, 16, 17, 18, 19, 20, 21, 22, 23, 24, 25, 26, 27, 28, 29, 30, 31, 32, 33, 34, 35, 36, 37, 38, 65, 66, 67, 68, 69, 70, 71, 72, 73, 74, 75, 76, 77, 78, 79, 80, 81] (by decide +kernel) (by decide +kernel)
set_option maxRecDepth 20000 in
theorem gX5_set_X1_prepare : GoodIn wsX5_set (wsV RX5 49 RX1 yX1_prepare wsX1_prepare) := goodIn_app (goodIn_of _ (by decide +kernel)) ggX5_set_X1_prepare
set_option maxRecDepth 20000 in
theorem ggX5_set_X4_replaceSetting : GoodIn wsX5_set wsX4_replaceSetting := goodIn_r _ [42, 15, 43, 44, 45, 67, 68, 69, 70, 71, 72, 73] (by decide +kernel) (by decide +kernel)
set_option maxRecDepth 20000 in
theorem gX5_set_X4_replaceSetting : GoodIn wsX5_set (wsV RX5 53 RX4 yX4_replaceSetting wsX4_replaceSetting) := goodIn_app (goodIn_of _ (by decide +kernel)) ggX5_set_X4_replaceSetting
set_option maxRecDepth 20000 in
theorem ggX5_set_X5_keptIfDone : GoodIn wsX5_set wsX5_keptIfDone := goodIn_r _ [49, 1, 50, 51, 52, 6, 53, 8, 54, 55, 56, 57, 9, 58, 59, 60, 61, 62, 63, 64, 65, 66] (by decide +kernel) (by decide +kernel)
set_option maxRecDepth 20000 in
theorem gX5_set_X5_keptIfDone : GoodIn wsX5_set (wsV RX5 57 RX5 yX5_keptIfDone wsX5_keptIfDone) := goodIn_app (goodIn_of _ (by decide +kernel)) ggX5_set_X5_keptIfDone
theorem dX5_set_0 : decode cX5_set 0 = .ok (.aload_n 0, 1) := by decide +kernel
theorem dX5_set_1 : decode cX5_set 1 = .ok (.getfield 19, 3) := by decide +kernel
theorem dX5_set_4 : decode cX5_set 4 = .ok (.aload_n 0, 1) := by decide +kernel
theorem dX5_set_5 : decode cX5_set 5 = .ok (.getfield 12, 3) := by decide +kernel
theorem dX5_set_8 : decode cX5_set 8 = .ok (.invokevirtual 49, 3) := by decide +kernel
theorem dX5_set_11 : decode cX5_set 11 = .ok (.aload_n 0, 1) := by decide +kernel
theorem dX5_set_12 : decode cX5_set 12 = .ok (.aload_n 0, 1) := by decide +kernel
theorem dX5_set_13 : decode cX5_set 13 = .ok (.getfield 12, 3) := by decide +kernel
theorem dX5_set_16 : decode cX5_set 16 = .ok (.iload_n 1, 1) := by decide +kernel
theorem dX5_set_17 : decode cX5_set 17 = .ok (.iload_n 2, 1) := by decide +kernel
theorem dX5_set_18 : decode cX5_set 18 = .ok (.invokevirtual 53, 3) := by decide +kernel
theorem dX5_set_21 : decode cX5_set 21 = .ok (.invokevirtual 57, 3) := by decide +kernel
theorem dX5_set_24 : decode cX5_set 24 = .ok (.ireturn, 1) := by decide +kernel
set_option maxRecDepth 20000 in
theorem ggX5_hang_X1_prepare : GoodIn wsX5_hang wsX1_prepare := goodIn_r _ [7, 8, 9, 10, 11, 12, 13, 14, 15, 16, 17, 18, 19, 20, 21, 22, 23, 24, 25, 26, 27, 28, 29, 30, 31, 32, 33, 34, 35, 36, 37, 38, 69, 70, 71, 72, 73, 74, 75, 76, 77, 78, 79, 80, 81, 82, 83, 84, 85] (by decide +kernel) (by decide +kernel)
set_option maxRecDepth 20000 in
theorem gX5_hang_X1_prepare : GoodIn wsX5_hang (wsV RX5 49 RX1 yX1_prepare wsX1_prepare) := goodIn_app (goodIn_of _ (by decide +kernel)) ggX5_hang_X1_prepare
set_option maxRecDepth 20000 in
theorem ggX5_hang_X4_addClock : GoodIn wsX5_hang wsX4_addClock := goodIn_r _ [42, 21, 22, 43, 44, 45, 46, 47, 48, 29, 49, 31, 32, 33, 34, 35, 36, 37, 38, 71, 72, 73, 74, 75, 76, 77, 78, 79, 80, 81, 82, 83, 84, 85] (by decide +kernel) (by decide +kernel)
set_option maxRecDepth 20000 in
theorem gX5_hang_X4_addClock : GoodIn wsX5_hang (wsV RX5 61 RX4 yX4_addClock wsX4_addClock) := goodIn_app (goodIn_of _ (by decide +kernel)) ggX5_hang_X4_addClock
set_option maxRecDepth 20000 in
theorem ggX5_hang_X5_keptIfDone : GoodIn wsX5_hang wsX5_keptIfDone := goodIn_r _ [53, 1, 54, 55, 56, 6, 57, 8, 58, 59, 60, 61, 9, 62, 63, 64, 65, 66, 67, 68, 69, 70] (by decide +kernel) (by decide +kernel)
set_option maxRecDepth 20000 in
theorem gX5_hang_X5_keptIfDone : GoodIn wsX5_hang (wsV RX5 57 RX5 yX5_keptIfDone wsX5_keptIfDone) := goodIn_app (goodIn_of _ (by decide +kernel)) ggX5_hang_X5_keptIfDone
theorem dX5_hang_0 : decode cX5_hang 0 = .ok (.aload_n 0, 1) := by decide +kernel
theorem dX5_hang_1 : decode cX5_hang 1 = .ok (.getfield 19, 3) := by decide +kernel
theorem dX5_hang_4 : decode cX5_hang 4 = .ok (.aload_n 0, 1) := by decide +kernel
theorem dX5_hang_5 : decode cX5_hang 5 = .ok (.getfield 12, 3) := by decide +kernel
theorem dX5_hang_8 : decode cX5_hang 8 = .ok (.invokevirtual 49, 3) := by decide +kernel
theorem dX5_hang_11 : decode cX5_hang 11 = .ok (.aload_n 0, 1) := by decide +kernel
theorem dX5_hang_12 : decode cX5_hang 12 = .ok (.aload_n 0, 1) := by decide +kernel
theorem dX5_hang_13 : decode cX5_hang 13 = .ok (.getfield 12, 3) := by decide +kernel
theorem dX5_hang_16 : decode cX5_hang 16 = .ok (.iload_n 1, 1) := by decide +kernel
theorem dX5_hang_17 : decode cX5_hang 17 = .ok (.iload_n 2, 1) := by decide +kernel
theorem dX5_hang_18 : decode cX5_hang 18 = .ok (.iload_n 3, 1) := by decide +kernel
theorem dX5_hang_19 : decode cX5_hang 19 = .ok (.invokevirtual 61, 3) := by decide +kernel
theorem dX5_hang_22 : decode cX5_hang 22 = .ok (.invokevirtual 57, 3) := by decide +kernel
theorem dX5_hang_25 : decode cX5_hang 25 = .ok (.ireturn, 1) := by decide +kernel
set_option maxRecDepth 20000 in
theorem ggX5_ladder_X1_prepare : GoodIn wsX5_ladder wsX1_prepare := goodIn_r _ [7, 8, 9, 10, 11, 12, 13, 14, 15, 16, 17, 18, 19, 20, 21, 22, 23, 24, 25, 26, 27, 28, 29, 30, 31, 32, 33, 34, 35, 36, 37, 38, 65, 66, 67, 68, 69, 70, 71, 72, 73, 74, 75, 76, 77, 78, 79, 80, 81] (by decide +kernel) (by decide +kernel)
set_option maxRecDepth 20000 in
theorem gX5_ladder_X1_prepare : GoodIn wsX5_ladder (wsV RX5 49 RX1 yX1_prepare wsX1_prepare) := goodIn_app (goodIn_of _ (by decide +kernel)) ggX5_ladder_X1_prepare
set_option maxRecDepth 20000 in
theorem ggX5_ladder_X4_addLadder : GoodIn wsX5_ladder wsX4_addLadder := goodIn_r _ [42, 23, 20, 43, 44, 45, 67, 68, 69, 70, 71, 72, 73] (by decide +kernel) (by decide +kernel)
set_option maxRecDepth 20000 in
theorem gX5_ladder_X4_addLadder : GoodIn wsX5_ladder (wsV RX5 65 RX4 yX4_addLadder wsX4_addLadder) := goodIn_app (goodIn_of _ (by decide +kernel)) ggX5_ladder_X4_addLadder
set_option maxRecDepth 20000 in
theorem ggX5_ladder_X5_keptIfDone : GoodIn wsX5_ladder wsX5_keptIfDone := goodIn_r _ [49, 1, 50, 51, 52, 6, 53, 8, 54, 55, 56, 57, 9, 58, 59, 60, 61, 62, 63, 64, 65, 66] (by decide +kernel) (by decide +kernel)
set_option maxRecDepth 20000 in
theorem gX5_ladder_X5_keptIfDone : GoodIn wsX5_ladder (wsV RX5 57 RX5 yX5_keptIfDone wsX5_keptIfDone) := goodIn_app (goodIn_of _ (by decide +kernel)) ggX5_ladder_X5_keptIfDone
theorem dX5_ladder_0 : decode cX5_ladder 0 = .ok (.aload_n 0, 1) := by decide +kernel
theorem dX5_ladder_1 : decode cX5_ladder 1 = .ok (.getfield 19, 3) := by decide +kernel
theorem dX5_ladder_4 : decode cX5_ladder 4 = .ok (.aload_n 0, 1) := by decide +kernel
theorem dX5_ladder_5 : decode cX5_ladder 5 = .ok (.getfield 12, 3) := by decide +kernel
theorem dX5_ladder_8 : decode cX5_ladder 8 = .ok (.invokevirtual 49, 3) := by decide +kernel
theorem dX5_ladder_11 : decode cX5_ladder 11 = .ok (.aload_n 0, 1) := by decide +kernel
theorem dX5_ladder_12 : decode cX5_ladder 12 = .ok (.aload_n 0, 1) := by decide +kernel
theorem dX5_ladder_13 : decode cX5_ladder 13 = .ok (.getfield 12, 3) := by decide +kernel
theorem dX5_ladder_16 : decode cX5_ladder 16 = .ok (.iload_n 1, 1) := by decide +kernel
theorem dX5_ladder_17 : decode cX5_ladder 17 = .ok (.invokevirtual 65, 3) := by decide +kernel
theorem dX5_ladder_20 : decode cX5_ladder 20 = .ok (.invokevirtual 57, 3) := by decide +kernel
theorem dX5_ladder_23 : decode cX5_ladder 23 = .ok (.ireturn, 1) := by decide +kernel
set_option maxRecDepth 20000 in
theorem ggX5_screw_X1_prepare : GoodIn wsX5_screw wsX1_prepare := goodIn_r _ [7, 8, 9, 10, 11, 12, 13, 14, 15, 16, 17, 18, 19, 20, 21, 22, 23, 24, 25, 26, 27, 28, 29, 30, 31, 32, 33, 34, 35, 36, 37, 38, 70, 71, 72, 73, 74, 75, 76, 77, 78, 79, 80, 81, 82, 83, 84, 85, 86] (by decide +kernel) (by decide +kernel)
set_option maxRecDepth 20000 in
theorem gX5_screw_X1_prepare : GoodIn wsX5_screw (wsV RX5 49 RX1 yX1_prepare wsX1_prepare) := goodIn_app (goodIn_of _ (by decide +kernel)) ggX5_screw_X1_prepare
set_option maxRecDepth 20000 in
theorem ggX5_screw_X4_turnScrew : GoodIn wsX5_screw wsX4_turnScrew := goodIn_r _ [42, 22, 43, 44, 45, 46, 13, 47, 21, 48, 49, 50, 72, 73, 74, 75, 76, 77, 78, 79, 80, 81, 82, 83, 84, 85, 86] (by decide +kernel) (by decide +kernel)
set_option maxRecDepth 20000 in
theorem gX5_screw_X4_turnScrew : GoodIn wsX5_screw (wsV RX5 68 RX4 yX4_turnScrew wsX4_turnScrew) := goodIn_app (goodIn_of _ (by decide +kernel)) ggX5_screw_X4_turnScrew
set_option maxRecDepth 20000 in
theorem ggX5_screw_X5_keptIfDone : GoodIn wsX5_screw wsX5_keptIfDone := goodIn_r _ [54, 1, 55, 56, 57, 6, 58, 8, 59, 60, 61, 62, 9, 63, 64, 65, 66, 67, 68, 69, 70, 71] (by decide +kernel) (by decide +kernel)
set_option maxRecDepth 20000 in
theorem gX5_screw_X5_keptIfDone : GoodIn wsX5_screw (wsV RX5 57 RX5 yX5_keptIfDone wsX5_keptIfDone) := goodIn_app (goodIn_of _ (by decide +kernel)) ggX5_screw_X5_keptIfDone
theorem dX5_screw_0 : decode cX5_screw 0 = .ok (.aload_n 0, 1) := by decide +kernel
theorem dX5_screw_1 : decode cX5_screw 1 = .ok (.getfield 19, 3) := by decide +kernel
theorem dX5_screw_4 : decode cX5_screw 4 = .ok (.aload_n 0, 1) := by decide +kernel
theorem dX5_screw_5 : decode cX5_screw 5 = .ok (.getfield 12, 3) := by decide +kernel
theorem dX5_screw_8 : decode cX5_screw 8 = .ok (.invokevirtual 49, 3) := by decide +kernel
theorem dX5_screw_11 : decode cX5_screw 11 = .ok (.aload_n 0, 1) := by decide +kernel
theorem dX5_screw_12 : decode cX5_screw 12 = .ok (.aload_n 0, 1) := by decide +kernel
theorem dX5_screw_13 : decode cX5_screw 13 = .ok (.getfield 12, 3) := by decide +kernel
theorem dX5_screw_16 : decode cX5_screw 16 = .ok (.iload_n 1, 1) := by decide +kernel
theorem dX5_screw_17 : decode cX5_screw 17 = .ok (.iload_n 2, 1) := by decide +kernel
theorem dX5_screw_18 : decode cX5_screw 18 = .ok (.invokevirtual 68, 3) := by decide +kernel
theorem dX5_screw_21 : decode cX5_screw 21 = .ok (.invokevirtual 57, 3) := by decide +kernel
theorem dX5_screw_24 : decode cX5_screw 24 = .ok (.ireturn, 1) := by decide +kernel
set_option maxRecDepth 20000 in
theorem ggX5_round_X5_chooseRow : GoodIn wsX5_round wsX5_chooseRow := goodIn_r _ [8, 3, 2, 9, 10, 11, 12, 13, 14, 15, 16, 17, 18, 19, 20, 21, 118, 119, 120, 121, 122, 123, 124, 125, 126, 127, 128, 129, 130, 131, 132, 133] (by decide +kernel) (by decide +kernel)
set_option maxRecDepth 20000 in
theorem gX5_round_X5_chooseRow : GoodIn wsX5_round (wsV RX5 71 RX5 yX5_chooseRow wsX5_chooseRow) := goodIn_app (goodIn_of _ (by decide +kernel)) ggX5_round_X5_chooseRow
set_option maxRecDepth 20000 in
theorem ggX5_round_X1_prepare : GoodIn wsX5_round wsX1_prepare := goodIn_r _ [26, 27, 28, 29, 30, 31, 32, 33, 34, 35, 36, 37, 38, 39, 40, 41, 42, 43, 44, 45, 46, 47, 48, 49, 50, 51, 52, 53, 54, 55, 56, 57, 134, 135, 125, 126, 127, 128, 129, 130, 131, 136, 137, 138, 139, 140, 141, 142, 143] (by decide +kernel) (by decide +kernel)
set_option maxRecDepth 20000 in
theorem gX5_round_X1_prepare : GoodIn wsX5_round (wsV RX5 49 RX1 yX1_prepare wsX1_prepare) := goodIn_app (goodIn_of _ (by decide +kernel)) ggX5_round_X1_prepare
set_option maxRecDepth 20000 in
theorem ggX5_round_X4_walkBeat : GoodIn wsX5_round wsX4_walkBeat := goodIn_r _ [61, 62, 41, 34, 44, 63, 64, 65, 32, 66, 67, 68, 69, 70, 71, 72, 73, 74, 14, 75, 16, 21, 76, 77, 78, 79, 40, 80, 81, 82, 83, 84, 42, 39, 85, 86, 87, 88, 89, 90, 91, 48, 92, 57, 54, 55, 56, 93, 94, 95, 96, 97, 98, 99, 100, 101, 53, 102, 103, 104, 105, 52, 132, 133, 125, 126, 127, 128, 129, 130, 131, 136, 137, 138, 139, 140, 141, 142, 143] (by decide +kernel) (by decide +kernel)
set_option maxRecDepth 20000 in
theorem gX5_round_X4_walkBeat : GoodIn wsX5_round (wsV RX5 74 RX4 yX4_walkBeat wsX4_walkBeat) := goodIn_app (goodIn_of _ (by decide +kernel)) ggX5_round_X4_walkBeat
set_option maxRecDepth 20000 in
theorem ggX5_round_X5_keptIfDone : GoodIn wsX5_round wsX5_keptIfDone := goodIn_r _ [109, 1, 110, 111, 112, 25, 113, 27, 114, 115, 116, 117, 28, 118, 119, 120, 121, 122, 123, 124, 134, 135] (by decide +kernel) (by decide +kernel)
set_option maxRecDepth 20000 in
theorem gX5_round_X5_keptIfDone : GoodIn wsX5_round (wsV RX5 57 RX5 yX5_keptIfDone wsX5_keptIfDone) := goodIn_app (goodIn_of _ (by decide +kernel)) ggX5_round_X5_keptIfDone
theorem dX5_round_0 : decode cX5_round 0 = .ok (.aload_n 0, 1) := by decide +kernel
theorem dX5_round_1 : decode cX5_round 1 = .ok (.iload_n 1, 1) := by decide +kernel
theorem dX5_round_2 : decode cX5_round 2 = .ok (.invokevirtual 71, 3) := by decide +kernel
theorem dX5_round_5 : decode cX5_round 5 = .ok (.istore_n 2, 1) := by decide +kernel
theorem dX5_round_6 : decode cX5_round 6 = .ok (.iload_n 2, 1) := by decide +kernel
theorem dX5_round_7 : decode cX5_round 7 = .ok (.ifCond .ge 5, 3) := by decide +kernel
theorem dX5_round_10 : decode cX5_round 10 = .ok (.iload_n 2, 1) := by decide +kernel
theorem dX5_round_11 : decode cX5_round 11 = .ok (.ireturn, 1) := by decide +kernel
theorem dX5_round_12 : decode cX5_round 12 = .ok (.aload_n 0, 1) := by decide +kernel
theorem dX5_round_13 : decode cX5_round 13 = .ok (.getfield 19, 3) := by decide +kernel
theorem dX5_round_16 : decode cX5_round 16 = .ok (.aload_n 0, 1) := by decide +kernel
theorem dX5_round_17 : decode cX5_round 17 = .ok (.getfield 12, 3) := by decide +kernel
theorem dX5_round_20 : decode cX5_round 20 = .ok (.invokevirtual 49, 3) := by decide +kernel
theorem dX5_round_23 : decode cX5_round 23 = .ok (.aload_n 0, 1) := by decide +kernel
theorem dX5_round_24 : decode cX5_round 24 = .ok (.aload_n 0, 1) := by decide +kernel
theorem dX5_round_25 : decode cX5_round 25 = .ok (.getfield 12, 3) := by decide +kernel
theorem dX5_round_28 : decode cX5_round 28 = .ok (.aload_n 0, 1) := by decide +kernel
theorem dX5_round_29 : decode cX5_round 29 = .ok (.getfield 41, 3) := by decide +kernel
theorem dX5_round_32 : decode cX5_round 32 = .ok (.invokevirtual 74, 3) := by decide +kernel
theorem dX5_round_35 : decode cX5_round 35 = .ok (.invokevirtual 57, 3) := by decide +kernel
theorem dX5_round_38 : decode cX5_round 38 = .ok (.ireturn, 1) := by decide +kernel
set_option maxRecDepth 20000 in
theorem ggX5_pass_X1_prepare : GoodIn wsX5_pass wsX1_prepare := goodIn_r _ [7, 8, 9, 10, 11, 12, 13, 14, 15, 16, 17, 18, 19, 20, 21, 22, 23, 24, 25, 26, 27, 28, 29, 30, 31, 32, 33, 34, 35, 36, 37, 38, 79, 80, 81, 82, 83, 84, 85, 86, 87, 88, 89, 90, 91, 92, 93, 94, 95] (by decide +kernel) (by decide +kernel)
set_option maxRecDepth 20000 in
theorem gX5_pass_X1_prepare : GoodIn wsX5_pass (wsV RX5 49 RX1 yX1_prepare wsX1_prepare) := goodIn_app (goodIn_of _ (by decide +kernel)) ggX5_pass_X1_prepare
set_option maxRecDepth 20000 in
theorem ggX5_pass_X4_passDays : GoodIn wsX5_pass wsX4_passDays := goodIn_r _ [42, 24, 21, 22, 15, 43, 44, 45, 46, 47, 48, 29, 49, 38, 35, 36, 50, 51, 52, 53, 54, 33, 34, 55, 56, 57, 13, 58, 59, 81, 82, 83, 84, 85, 86, 87, 88, 89, 90, 91, 92, 93, 94, 95] (by decide +kernel) (by decide +kernel)
set_option maxRecDepth 20000 in
theorem gX5_pass_X4_passDays : GoodIn wsX5_pass (wsV RX5 78 RX4 yX4_passDays wsX4_passDays) := goodIn_app (goodIn_of _ (by decide +kernel)) ggX5_pass_X4_passDays
set_option maxRecDepth 20000 in
theorem ggX5_pass_X5_keptIfDone : GoodIn wsX5_pass wsX5_keptIfDone := goodIn_r _ [63, 1, 64, 65, 66, 6, 67, 8, 68, 69, 70, 71, 9, 72, 73, 74, 75, 76, 77, 78, 79, 80] (by decide +kernel) (by decide +kernel)
set_option maxRecDepth 20000 in
theorem gX5_pass_X5_keptIfDone : GoodIn wsX5_pass (wsV RX5 57 RX5 yX5_keptIfDone wsX5_keptIfDone) := goodIn_app (goodIn_of _ (by decide +kernel)) ggX5_pass_X5_keptIfDone
theorem dX5_pass_0 : decode cX5_pass 0 = .ok (.aload_n 0, 1) := by decide +kernel
theorem dX5_pass_1 : decode cX5_pass 1 = .ok (.getfield 19, 3) := by decide +kernel
theorem dX5_pass_4 : decode cX5_pass 4 = .ok (.aload_n 0, 1) := by decide +kernel
theorem dX5_pass_5 : decode cX5_pass 5 = .ok (.getfield 12, 3) := by decide +kernel
theorem dX5_pass_8 : decode cX5_pass 8 = .ok (.invokevirtual 49, 3) := by decide +kernel
theorem dX5_pass_11 : decode cX5_pass 11 = .ok (.aload_n 0, 1) := by decide +kernel
theorem dX5_pass_12 : decode cX5_pass 12 = .ok (.aload_n 0, 1) := by decide +kernel
theorem dX5_pass_13 : decode cX5_pass 13 = .ok (.getfield 12, 3) := by decide +kernel
theorem dX5_pass_16 : decode cX5_pass 16 = .ok (.iload_n 1, 1) := by decide +kernel
theorem dX5_pass_17 : decode cX5_pass 17 = .ok (.invokevirtual 78, 3) := by decide +kernel
theorem dX5_pass_20 : decode cX5_pass 20 = .ok (.invokevirtual 57, 3) := by decide +kernel
theorem dX5_pass_23 : decode cX5_pass 23 = .ok (.ireturn, 1) := by decide +kernel
set_option maxRecDepth 20000 in
theorem ggX5_change_X1_prepare : GoodIn wsX5_change wsX1_prepare := goodIn_r _ [7, 8, 9, 10, 11, 12, 13, 14, 15, 16, 17, 18, 19, 20, 21, 22, 23, 24, 25, 26, 27, 28, 29, 30, 31, 32, 33, 34, 35, 36, 37, 38, 69, 70, 71, 72, 73, 74, 75, 76, 77, 78, 79, 80, 81, 82, 83, 84, 85] (by decide +kernel) (by decide +kernel)
set_option maxRecDepth 20000 in
theorem gX5_change_X1_prepare : GoodIn wsX5_change (wsV RX5 49 RX1 yX1_prepare wsX1_prepare) := goodIn_app (goodIn_of _ (by decide +kernel)) ggX5_change_X1_prepare
set_option maxRecDepth 20000 in
theorem ggX5_change_X4_changeClocks : GoodIn wsX5_change wsX4_changeClocks := goodIn_r _ [42, 21, 22, 43, 44, 45, 46, 47, 13, 48, 71, 72, 73, 74, 75, 76, 77, 78, 79, 80, 81, 82, 83, 84, 85] (by decide +kernel) (by decide +kernel)
set_option maxRecDepth 20000 in
theorem gX5_change_X4_changeClocks : GoodIn wsX5_change (wsV RX5 81 RX4 yX4_changeClocks wsX4_changeClocks) := goodIn_app (goodIn_of _ (by decide +kernel)) ggX5_change_X4_changeClocks
set_option maxRecDepth 20000 in
theorem ggX5_change_X5_keptIfDone : GoodIn wsX5_change wsX5_keptIfDone := goodIn_r _ [53, 1, 54, 55, 56, 6, 57, 8, 58, 59, 60, 61, 9, 62, 63, 64, 65, 66, 67, 68, 69, 70] (by decide +kernel) (by decide +kernel)
set_option maxRecDepth 20000 in
theorem gX5_change_X5_keptIfDone : GoodIn wsX5_change (wsV RX5 57 RX5 yX5_keptIfDone wsX5_keptIfDone) := goodIn_app (goodIn_of _ (by decide +kernel)) ggX5_change_X5_keptIfDone
theorem dX5_change_0 : decode cX5_change 0 = .ok (.aload_n 0, 1) := by decide +kernel
theorem dX5_change_1 : decode cX5_change 1 = .ok (.getfield 19, 3) := by decide +kernel
theorem dX5_change_4 : decode cX5_change 4 = .ok (.aload_n 0, 1) := by decide +kernel
theorem dX5_change_5 : decode cX5_change 5 = .ok (.getfield 12, 3) := by decide +kernel
theorem dX5_change_8 : decode cX5_change 8 = .ok (.invokevirtual 49, 3) := by decide +kernel
theorem dX5_change_11 : decode cX5_change 11 = .ok (.aload_n 0, 1) := by decide +kernel
theorem dX5_change_12 : decode cX5_change 12 = .ok (.aload_n 0, 1) := by decide +kernel
theorem dX5_change_13 : decode cX5_change 13 = .ok (.getfield 12, 3) := by decide +kernel
theorem dX5_change_16 : decode cX5_change 16 = .ok (.iload_n 1, 1) := by decide +kernel
theorem dX5_change_17 : decode cX5_change 17 = .ok (.invokevirtual 81, 3) := by decide +kernel
theorem dX5_change_20 : decode cX5_change 20 = .ok (.invokevirtual 57, 3) := by decide +kernel
theorem dX5_change_23 : decode cX5_change 23 = .ok (.ireturn, 1) := by decide +kernel
set_option maxRecDepth 20000 in
theorem ggX5_of_X4_hasClock : GoodIn wsX5_of wsX4_hasClock := goodIn_r _ [17, 18, 48, 49, 50, 51, 52, 53, 54] (by decide +kernel) (by decide +kernel)
set_option maxRecDepth 20000 in
theorem gX5_of_X4_hasClock : GoodIn wsX5_of (wsV RX5 84 RX4 yX4_hasClock wsX4_hasClock) := goodIn_app (goodIn_of _ (by decide +kernel)) ggX5_of_X4_hasClock
set_option maxRecDepth 20000 in
theorem ggX5_of_X0_isOffBeyond : GoodIn wsX5_of wsX0_isOffBeyond := goodIn_r _ [23, 24, 25, 26, 27, 28, 55, 56, 57, 58, 59, 60, 61, 62] (by decide +kernel) (by decide +kernel)
set_option maxRecDepth 20000 in
theorem gX5_of_X0_isOffBeyond : GoodIn wsX5_of (wsV RX5 121 RX0 yX0_isOffBeyond wsX0_isOffBeyond) := goodIn_app (goodIn_of _ (by decide +kernel)) ggX5_of_X0_isOffBeyond
set_option maxRecDepth 20000 in
theorem ggX5_of_X4_ladderNeeded : GoodIn wsX5_of wsX4_ladderNeeded := goodIn_r _ [32, 33, 34, 35, 55, 56, 57, 58, 59, 60, 61, 62, 48, 49, 50, 51, 52, 53, 54] (by decide +kernel) (by decide +kernel)
set_option maxRecDepth 20000 in
theorem gX5_of_X4_ladderNeeded : GoodIn wsX5_of (wsV RX5 124 RX4 yX4_ladderNeeded wsX4_ladderNeeded) := goodIn_app (goodIn_of _ (by decide +kernel)) ggX5_of_X4_ladderNeeded
set_option maxRecDepth 20000 in
theorem ggX5_of_X4_canBeWound : GoodIn wsX5_of wsX4_canBeWound := goodIn_r _ [39, 33, 40, 30, 31, 16, 32, 34, 35, 55, 56, 57, 58, 59, 60, 61, 62, 48, 49, 50, 51, 52, 53, 54] (by decide +kernel) (by decide +kernel)
set_option maxRecDepth 20000 in
theorem gX5_of_X4_canBeWound : GoodIn wsX5_of (wsV RX5 128 RX4 yX4_canBeWound wsX4_canBeWound) := goodIn_app (goodIn_of _ (by decide +kernel)) ggX5_of_X4_canBeWound
theorem dX5_of_0 : decode cX5_of 0 = .ok (.aload_n 0, 1) := by decide +kernel
theorem dX5_of_1 : decode cX5_of 1 = .ok (.getfield 12, 3) := by decide +kernel
theorem dX5_of_4 : decode cX5_of 4 = .ok (.iload_n 1, 1) := by decide +kernel
theorem dX5_of_5 : decode cX5_of 5 = .ok (.invokevirtual 84, 3) := by decide +kernel
theorem dX5_of_8 : decode cX5_of 8 = .ok (.ifCond .ne 5, 3) := by decide +kernel
theorem dX5_of_11 : decode cX5_of 11 = .ok (.iconst (-1), 1) := by decide +kernel
theorem dX5_of_12 : decode cX5_of 12 = .ok (.ireturn, 1) := by decide +kernel
theorem dX5_of_13 : decode cX5_of 13 = .ok (.aload_n 0, 1) := by decide +kernel
theorem dX5_of_14 : decode cX5_of 14 = .ok (.getfield 12, 3) := by decide +kernel
theorem dX5_of_17 : decode cX5_of 17 = .ok (.getfield 88, 3) := by decide +kernel
theorem dX5_of_20 : decode cX5_of 20 = .ok (.iload_n 1, 1) := by decide +kernel
theorem dX5_of_21 : decode cX5_of 21 = .ok (.aaload, 1) := by decide +kernel
theorem dX5_of_22 : decode cX5_of 22 = .ok (.astore_n 3, 1) := by decide +kernel
theorem dX5_of_23 : decode cX5_of 23 = .ok (.iload_n 2, 1) := by decide +kernel
theorem dX5_of_24 : decode cX5_of 24 = .ok (.tableswitch 165 0 10 #[60, 65, 70, 78, 86, 94, 99, 112, 134, 143, 160], 60) := by decide +kernel
theorem dX5_of_84 : decode cX5_of 84 = .ok (.aload_n 3, 1) := by decide +kernel
theorem dX5_of_85 : decode cX5_of 85 = .ok (.getfield 92, 3) := by decide +kernel
theorem dX5_of_88 : decode cX5_of 88 = .ok (.ireturn, 1) := by decide +kernel
theorem dX5_of_89 : decode cX5_of 89 = .ok (.aload_n 3, 1) := by decide +kernel
theorem dX5_of_90 : decode cX5_of 90 = .ok (.getfield 98, 3) := by decide +kernel
theorem dX5_of_93 : decode cX5_of 93 = .ok (.ireturn, 1) := by decide +kernel
theorem dX5_of_94 : decode cX5_of 94 = .ok (.aload_n 3, 1) := by decide +kernel
theorem dX5_of_95 : decode cX5_of 95 = .ok (.getfield 101, 3) := by decide +kernel
theorem dX5_of_98 : decode cX5_of 98 = .ok (.bipush 100, 2) := by decide +kernel
theorem dX5_of_100 : decode cX5_of 100 = .ok (.iadd, 1) := by decide +kernel
theorem dX5_of_101 : decode cX5_of 101 = .ok (.ireturn, 1) := by decide +kernel
theorem dX5_of_102 : decode cX5_of 102 = .ok (.aload_n 3, 1) := by decide +kernel
theorem dX5_of_103 : decode cX5_of 103 = .ok (.getfield 104, 3) := by decide +kernel
theorem dX5_of_106 : decode cX5_of 106 = .ok (.bipush 20, 2) := by decide +kernel
theorem dX5_of_108 : decode cX5_of 108 = .ok (.iadd, 1) := by decide +kernel
theorem dX5_of_109 : decode cX5_of 109 = .ok (.ireturn, 1) := by decide +kernel
theorem dX5_of_110 : decode cX5_of 110 = .ok (.aload_n 3, 1) := by decide +kernel
theorem dX5_of_111 : decode cX5_of 111 = .ok (.getfield 107, 3) := by decide +kernel
theorem dX5_of_114 : decode cX5_of 114 = .ok (.ldc 110, 2) := by decide +kernel
theorem dX5_of_116 : decode cX5_of 116 = .ok (.iadd, 1) := by decide +kernel
theorem dX5_of_117 : decode cX5_of 117 = .ok (.ireturn, 1) := by decide +kernel
theorem dX5_of_118 : decode cX5_of 118 = .ok (.aload_n 3, 1) := by decide +kernel
theorem dX5_of_119 : decode cX5_of 119 = .ok (.getfield 111, 3) := by decide +kernel
theorem dX5_of_122 : decode cX5_of 122 = .ok (.ireturn, 1) := by decide +kernel
theorem dX5_of_123 : decode cX5_of 123 = .ok (.aload_n 3, 1) := by decide +kernel
theorem dX5_of_124 : decode cX5_of 124 = .ok (.getfield 114, 3) := by decide +kernel
theorem dX5_of_127 : decode cX5_of 127 = .ok (.ifCond .eq 7, 3) := by decide +kernel
theorem dX5_of_130 : decode cX5_of 130 = .ok (.iconst 1, 1) := by decide +kernel
theorem dX5_of_131 : decode cX5_of 131 = .ok (.goto 4, 3) := by decide +kernel
theorem dX5_of_134 : decode cX5_of 134 = .ok (.iconst 0, 1) := by decide +kernel
theorem dX5_of_135 : decode cX5_of 135 = .ok (.ireturn, 1) := by decide +kernel
theorem dX5_of_136 : decode cX5_of 136 = .ok (.aload_n 3, 1) := by decide +kernel
theorem dX5_of_137 : decode cX5_of 137 = .ok (.aload_n 0, 1) := by decide +kernel
theorem dX5_of_138 : decode cX5_of 138 = .ok (.getfield 12, 3) := by decide +kernel
theorem dX5_of_141 : decode cX5_of 141 = .ok (.getfield 118, 3) := by decide +kernel
theorem dX5_of_144 : decode cX5_of 144 = .ok (.iconst 0, 1) := by decide +kernel
theorem dX5_of_145 : decode cX5_of 145 = .ok (.iaload, 1) := by decide +kernel
theorem dX5_of_146 : decode cX5_of 146 = .ok (.invokevirtual 121, 3) := by decide +kernel
theorem dX5_of_149 : decode cX5_of 149 = .ok (.ifCond .eq 7, 3) := by decide +kernel
theorem dX5_of_152 : decode cX5_of 152 = .ok (.iconst 0, 1) := by decide +kernel
theorem dX5_of_153 : decode cX5_of 153 = .ok (.goto 4, 3) := by decide +kernel
theorem dX5_of_156 : decode cX5_of 156 = .ok (.iconst 1, 1) := by decide +kernel
theorem dX5_of_157 : decode cX5_of 157 = .ok (.ireturn, 1) := by decide +kernel
theorem dX5_of_158 : decode cX5_of 158 = .ok (.aload_n 0, 1) := by decide +kernel
theorem dX5_of_159 : decode cX5_of 159 = .ok (.getfield 12, 3) := by decide +kernel
theorem dX5_of_162 : decode cX5_of 162 = .ok (.aload_n 3, 1) := by decide +kernel
theorem dX5_of_163 : decode cX5_of 163 = .ok (.invokevirtual 124, 3) := by decide +kernel
theorem dX5_of_166 : decode cX5_of 166 = .ok (.ireturn, 1) := by decide +kernel
theorem dX5_of_167 : decode cX5_of 167 = .ok (.aload_n 0, 1) := by decide +kernel
theorem dX5_of_168 : decode cX5_of 168 = .ok (.getfield 12, 3) := by decide +kernel
theorem dX5_of_171 : decode cX5_of 171 = .ok (.aload_n 3, 1) := by decide +kernel
theorem dX5_of_172 : decode cX5_of 172 = .ok (.invokevirtual 128, 3) := by decide +kernel
theorem dX5_of_175 : decode cX5_of 175 = .ok (.ifCond .eq 7, 3) := by decide +kernel
theorem dX5_of_178 : decode cX5_of 178 = .ok (.iconst 1, 1) := by decide +kernel
theorem dX5_of_179 : decode cX5_of 179 = .ok (.goto 4, 3) := by decide +kernel
theorem dX5_of_182 : decode cX5_of 182 = .ok (.iconst 0, 1) := by decide +kernel
theorem dX5_of_183 : decode cX5_of 183 = .ok (.ireturn, 1) := by decide +kernel
theorem dX5_of_184 : decode cX5_of 184 = .ok (.aload_n 3, 1) := by decide +kernel
theorem dX5_of_185 : decode cX5_of 185 = .ok (.getfield 132, 3) := by decide +kernel
theorem dX5_of_188 : decode cX5_of 188 = .ok (.ireturn, 1) := by decide +kernel
theorem dX5_of_189 : decode cX5_of 189 = .ok (.bipush (-2), 2) := by decide +kernel
theorem dX5_of_191 : decode cX5_of 191 = .ok (.ireturn, 1) := by decide +kernel
set_option maxRecDepth 20000 in
theorem ggX5_ofLadder_X4_hasLadder : GoodIn wsX5_ofLadder wsX4_hasLadder := goodIn_r _ [7, 8, 16, 17, 18, 19, 20, 21, 22] (by decide +kernel) (by decide +kernel)
set_option maxRecDepth 20000 in
theorem gX5_ofLadder_X4_hasLadder : GoodIn wsX5_ofLadder (wsV RX5 135 RX4 yX4_hasLadder wsX4_hasLadder) := goodIn_app (goodIn_of _ (by decide +kernel)) ggX5_ofLadder_X4_hasLadder
theorem dX5_ofLadder_0 : decode cX5_ofLadder 0 = .ok (.aload_n 0, 1) := by decide +kernel
theorem dX5_ofLadder_1 : decode cX5_ofLadder 1 = .ok (.getfield 12, 3) := by decide +kernel
theorem dX5_ofLadder_4 : decode cX5_ofLadder 4 = .ok (.iload_n 1, 1) := by decide +kernel
theorem dX5_ofLadder_5 : decode cX5_ofLadder 5 = .ok (.invokevirtual 135, 3) := by decide +kernel
theorem dX5_ofLadder_8 : decode cX5_ofLadder 8 = .ok (.ifCond .eq 15, 3) := by decide +kernel
theorem dX5_ofLadder_11 : decode cX5_ofLadder 11 = .ok (.aload_n 0, 1) := by decide +kernel
theorem dX5_ofLadder_12 : decode cX5_ofLadder 12 = .ok (.getfield 12, 3) := by decide +kernel
theorem dX5_ofLadder_15 : decode cX5_ofLadder 15 = .ok (.getfield 138, 3) := by decide +kernel
theorem dX5_ofLadder_18 : decode cX5_ofLadder 18 = .ok (.iload_n 1, 1) := by decide +kernel
theorem dX5_ofLadder_19 : decode cX5_ofLadder 19 = .ok (.iaload, 1) := by decide +kernel
theorem dX5_ofLadder_20 : decode cX5_ofLadder 20 = .ok (.goto 4, 3) := by decide +kernel
theorem dX5_ofLadder_23 : decode cX5_ofLadder 23 = .ok (.iconst (-1), 1) := by decide +kernel
theorem dX5_ofLadder_24 : decode cX5_ofLadder 24 = .ok (.ireturn, 1) := by decide +kernel
set_option maxRecDepth 20000 in
theorem ggX5_count_X4_setOfStill : GoodIn wsX5_count wsX4_setOfStill := goodIn_r _ [15, 16, 17, 18, 61, 62, 63, 64, 65, 66, 67, 75, 76, 77, 78, 79, 80, 81, 82] (by decide +kernel) (by decide +kernel)
set_option maxRecDepth 20000 in
theorem gX5_count_X4_setOfStill : GoodIn wsX5_count (wsV RX5 150 RX4 yX4_setOfStill wsX4_setOfStill) := goodIn_app (goodIn_of _ (by decide +kernel)) ggX5_count_X4_setOfStill
set_option maxRecDepth 20000 in
theorem ggX5_count_X4_numberOffBeyondTold : GoodIn wsX5_count wsX4_numberOffBeyondTold := goodIn_r _ [22, 16, 17, 23, 24, 25, 26, 27, 28, 29, 30, 31, 32, 33, 61, 62, 63, 64, 65, 66, 67, 75, 76, 77, 78, 79, 80, 81, 82] (by decide +kernel) (by decide +kernel)
set_option maxRecDepth 20000 in
theorem gX5_count_X4_numberOffBeyondTold : GoodIn wsX5_count (wsV RX5 154 RX4 yX4_numberOffBeyondTold wsX4_numberOffBeyondTold) := goodIn_app (goodIn_of _ (by decide +kernel)) ggX5_count_X4_numberOffBeyondTold
set_option maxRecDepth 20000 in
theorem ggX5_count_X4_numberThatCannotBeWound : GoodIn wsX5_count wsX4_numberThatCannotBeWound := goodIn_r _ [37, 16, 17, 38, 39, 40, 14, 41, 42, 43, 44, 45, 46, 47, 48, 61, 62, 63, 64, 65, 66, 67, 75, 76, 77, 78, 79, 80, 81, 82] (by decide +kernel) (by decide +kernel)
set_option maxRecDepth 20000 in
theorem gX5_count_X4_numberThatCannotBeWound : GoodIn wsX5_count (wsV RX5 157 RX4 yX4_numberThatCannotBeWound wsX4_numberThatCannotBeWound) := goodIn_app (goodIn_of _ (by decide +kernel)) ggX5_count_X4_numberThatCannotBeWound
set_option maxRecDepth 20000 in
theorem ggX5_count_X4_timesWoundInAll : GoodIn wsX5_count wsX4_timesWoundInAll := goodIn_r _ [52, 16, 17, 53, 61, 62, 63, 64, 65, 66, 67, 75, 76, 77, 78, 79, 80, 81, 82] (by decide +kernel) (by decide +kernel)
set_option maxRecDepth 20000 in
theorem gX5_count_X4_timesWoundInAll : GoodIn wsX5_count (wsV RX5 163 RX4 yX4_timesWoundInAll wsX4_timesWoundInAll) := goodIn_app (goodIn_of _ (by decide +kernel)) ggX5_count_X4_timesWoundInAll
theorem dX5_count_0 : decode cX5_count 0 = .ok (.iload_n 1, 1) := by decide +kernel
theorem dX5_count_1 : decode cX5_count 1 = .ok (.tableswitch 191 0 13 #[71, 79, 87, 95, 103, 111, 119, 127, 135, 145, 155, 165, 175, 183], 71) := by decide +kernel
theorem dX5_count_72 : decode cX5_count 72 = .ok (.aload_n 0, 1) := by decide +kernel
theorem dX5_count_73 : decode cX5_count 73 = .ok (.getfield 12, 3) := by decide +kernel
theorem dX5_count_76 : decode cX5_count 76 = .ok (.getfield 141, 3) := by decide +kernel
theorem dX5_count_79 : decode cX5_count 79 = .ok (.ireturn, 1) := by decide +kernel
theorem dX5_count_80 : decode cX5_count 80 = .ok (.aload_n 0, 1) := by decide +kernel
theorem dX5_count_81 : decode cX5_count 81 = .ok (.getfield 12, 3) := by decide +kernel
theorem dX5_count_84 : decode cX5_count 84 = .ok (.getfield 144, 3) := by decide +kernel
theorem dX5_count_87 : decode cX5_count 87 = .ok (.ireturn, 1) := by decide +kernel
theorem dX5_count_88 : decode cX5_count 88 = .ok (.aload_n 0, 1) := by decide +kernel
theorem dX5_count_89 : decode cX5_count 89 = .ok (.getfield 12, 3) := by decide +kernel
theorem dX5_count_92 : decode cX5_count 92 = .ok (.getfield 147, 3) := by decide +kernel
theorem dX5_count_95 : decode cX5_count 95 = .ok (.ireturn, 1) := by decide +kernel
theorem dX5_count_96 : decode cX5_count 96 = .ok (.aload_n 0, 1) := by decide +kernel
theorem dX5_count_97 : decode cX5_count 97 = .ok (.getfield 12, 3) := by decide +kernel
theorem dX5_count_100 : decode cX5_count 100 = .ok (.invokevirtual 150, 3) := by decide +kernel
theorem dX5_count_103 : decode cX5_count 103 = .ok (.ireturn, 1) := by decide +kernel
theorem dX5_count_104 : decode cX5_count 104 = .ok (.aload_n 0, 1) := by decide +kernel
theorem dX5_count_105 : decode cX5_count 105 = .ok (.getfield 12, 3) := by decide +kernel
theorem dX5_count_108 : decode cX5_count 108 = .ok (.invokevirtual 154, 3) := by decide +kernel
theorem dX5_count_111 : decode cX5_count 111 = .ok (.ireturn, 1) := by decide +kernel
theorem dX5_count_112 : decode cX5_count 112 = .ok (.aload_n 0, 1) := by decide +kernel
theorem dX5_count_113 : decode cX5_count 113 = .ok (.getfield 12, 3) := by decide +kernel
theorem dX5_count_116 : decode cX5_count 116 = .ok (.invokevirtual 157, 3) := by decide +kernel
theorem dX5_count_119 : decode cX5_count 119 = .ok (.ireturn, 1) := by decide +kernel
theorem dX5_count_120 : decode cX5_count 120 = .ok (.aload_n 0, 1) := by decide +kernel
theorem dX5_count_121 : decode cX5_count 121 = .ok (.getfield 12, 3) := by decide +kernel
theorem dX5_count_124 : decode cX5_count 124 = .ok (.getfield 160, 3) := by decide +kernel
theorem dX5_count_127 : decode cX5_count 127 = .ok (.ireturn, 1) := by decide +kernel
theorem dX5_count_128 : decode cX5_count 128 = .ok (.aload_n 0, 1) := by decide +kernel
theorem dX5_count_129 : decode cX5_count 129 = .ok (.getfield 12, 3) := by decide +kernel
theorem dX5_count_132 : decode cX5_count 132 = .ok (.invokevirtual 163, 3) := by decide +kernel
theorem dX5_count_135 : decode cX5_count 135 = .ok (.ireturn, 1) := by decide +kernel
theorem dX5_count_136 : decode cX5_count 136 = .ok (.aload_n 0, 1) := by decide +kernel
theorem dX5_count_137 : decode cX5_count 137 = .ok (.getfield 12, 3) := by decide +kernel
theorem dX5_count_140 : decode cX5_count 140 = .ok (.getfield 118, 3) := by decide +kernel
theorem dX5_count_143 : decode cX5_count 143 = .ok (.iconst 0, 1) := by decide +kernel
theorem dX5_count_144 : decode cX5_count 144 = .ok (.iaload, 1) := by decide +kernel
theorem dX5_count_145 : decode cX5_count 145 = .ok (.ireturn, 1) := by decide +kernel
theorem dX5_count_146 : decode cX5_count 146 = .ok (.aload_n 0, 1) := by decide +kernel
theorem dX5_count_147 : decode cX5_count 147 = .ok (.getfield 12, 3) := by decide +kernel
theorem dX5_count_150 : decode cX5_count 150 = .ok (.getfield 118, 3) := by decide +kernel
theorem dX5_count_153 : decode cX5_count 153 = .ok (.iconst 1, 1) := by decide +kernel
theorem dX5_count_154 : decode cX5_count 154 = .ok (.iaload, 1) := by decide +kernel
theorem dX5_count_155 : decode cX5_count 155 = .ok (.ireturn, 1) := by decide +kernel
theorem dX5_count_156 : decode cX5_count 156 = .ok (.aload_n 0, 1) := by decide +kernel
theorem dX5_count_157 : decode cX5_count 157 = .ok (.getfield 12, 3) := by decide +kernel
theorem dX5_count_160 : decode cX5_count 160 = .ok (.getfield 118, 3) := by decide +kernel
theorem dX5_count_163 : decode cX5_count 163 = .ok (.iconst 2, 1) := by decide +kernel
theorem dX5_count_164 : decode cX5_count 164 = .ok (.iaload, 1) := by decide +kernel
theorem dX5_count_165 : decode cX5_count 165 = .ok (.ireturn, 1) := by decide +kernel
theorem dX5_count_166 : decode cX5_count 166 = .ok (.aload_n 0, 1) := by decide +kernel
theorem dX5_count_167 : decode cX5_count 167 = .ok (.getfield 12, 3) := by decide +kernel
theorem dX5_count_170 : decode cX5_count 170 = .ok (.getfield 118, 3) := by decide +kernel
theorem dX5_count_173 : decode cX5_count 173 = .ok (.iconst 3, 1) := by decide +kernel
theorem dX5_count_174 : decode cX5_count 174 = .ok (.iaload, 1) := by decide +kernel
theorem dX5_count_175 : decode cX5_count 175 = .ok (.ireturn, 1) := by decide +kernel
theorem dX5_count_176 : decode cX5_count 176 = .ok (.aload_n 0, 1) := by decide +kernel
theorem dX5_count_177 : decode cX5_count 177 = .ok (.getfield 34, 3) := by decide +kernel
theorem dX5_count_180 : decode cX5_count 180 = .ok (.getfield 166, 3) := by decide +kernel
theorem dX5_count_183 : decode cX5_count 183 = .ok (.ireturn, 1) := by decide +kernel
theorem dX5_count_184 : decode cX5_count 184 = .ok (.aload_n 0, 1) := by decide +kernel
theorem dX5_count_185 : decode cX5_count 185 = .ok (.getfield 19, 3) := by decide +kernel
theorem dX5_count_188 : decode cX5_count 188 = .ok (.getfield 169, 3) := by decide +kernel
theorem dX5_count_191 : decode cX5_count 191 = .ok (.ireturn, 1) := by decide +kernel
theorem dX5_count_192 : decode cX5_count 192 = .ok (.bipush (-2), 2) := by decide +kernel
theorem dX5_count_194 : decode cX5_count 194 = .ok (.ireturn, 1) := by decide +kernel
set_option maxRecDepth 20000 in
theorem ggX5_takes_X5_chooseRow : GoodIn wsX5_takes wsX5_chooseRow := goodIn_r _ [7, 2, 1, 8, 9, 10, 11, 12, 13, 14, 15, 16, 17, 18, 19, 20, 54, 55, 56, 57, 58, 59, 60, 61, 62, 63, 64, 65, 66, 67, 68, 69] (by decide +kernel) (by decide +kernel)
set_option maxRecDepth 20000 in
theorem gX5_takes_X5_chooseRow : GoodIn wsX5_takes (wsV RX5 71 RX5 yX5_chooseRow wsX5_chooseRow) := goodIn_app (goodIn_of _ (by decide +kernel)) ggX5_takes_X5_chooseRow
set_option maxRecDepth 20000 in
theorem ggX5_takes_X4_minutesOf : GoodIn wsX5_takes wsX4_minutesOf := goodIn_r _ [25, 26, 27, 28, 29, 30, 31, 32, 33, 34, 35, 36, 13, 37, 15, 20, 38, 39, 40, 24, 41, 42, 43, 44, 45, 46, 47, 48, 49, 50, 51, 52, 53, 68, 69, 61, 62, 63, 64, 65, 66, 67, 70, 71, 72, 73, 74, 75, 76, 77] (by decide +kernel) (by decide +kernel)
set_option maxRecDepth 20000 in
theorem gX5_takes_X4_minutesOf : GoodIn wsX5_takes (wsV RX5 172 RX4 yX4_minutesOf wsX4_minutesOf) := goodIn_app (goodIn_of _ (by decide +kernel)) ggX5_takes_X4_minutesOf
theorem dX5_takes_0 : decode cX5_takes 0 = .ok (.aload_n 0, 1) := by decide +kernel
theorem dX5_takes_1 : decode cX5_takes 1 = .ok (.iload_n 1, 1) := by decide +kernel
theorem dX5_takes_2 : decode cX5_takes 2 = .ok (.invokevirtual 71, 3) := by decide +kernel
theorem dX5_takes_5 : decode cX5_takes 5 = .ok (.istore_n 2, 1) := by decide +kernel
theorem dX5_takes_6 : decode cX5_takes 6 = .ok (.iload_n 2, 1) := by decide +kernel
theorem dX5_takes_7 : decode cX5_takes 7 = .ok (.ifCond .ge 7, 3) := by decide +kernel
theorem dX5_takes_10 : decode cX5_takes 10 = .ok (.iload_n 2, 1) := by decide +kernel
theorem dX5_takes_11 : decode cX5_takes 11 = .ok (.goto 14, 3) := by decide +kernel
theorem dX5_takes_14 : decode cX5_takes 14 = .ok (.aload_n 0, 1) := by decide +kernel
theorem dX5_takes_15 : decode cX5_takes 15 = .ok (.getfield 12, 3) := by decide +kernel
theorem dX5_takes_18 : decode cX5_takes 18 = .ok (.aload_n 0, 1) := by decide +kernel
theorem dX5_takes_19 : decode cX5_takes 19 = .ok (.getfield 41, 3) := by decide +kernel
theorem dX5_takes_22 : decode cX5_takes 22 = .ok (.invokevirtual 172, 3) := by decide +kernel
theorem dX5_takes_25 : decode cX5_takes 25 = .ok (.ireturn, 1) := by decide +kernel
set_option maxRecDepth 20000 in
theorem ggX5_lasts_X4_hasClock : GoodIn wsX5_lasts wsX4_hasClock := goodIn_r _ [6, 7, 46, 47, 48, 49, 50, 51, 52] (by decide +kernel) (by decide +kernel)
set_option maxRecDepth 20000 in
theorem gX5_lasts_X4_hasClock : GoodIn wsX5_lasts (wsV RX5 84 RX4 yX4_hasClock wsX4_hasClock) := goodIn_app (goodIn_of _ (by decide +kernel)) ggX5_lasts_X4_hasClock
set_option maxRecDepth 20000 in
theorem ggX5_lasts_X4_daysUntilOff : GoodIn wsX5_lasts wsX4_daysUntilOff := goodIn_r _ [11, 12, 13, 14, 3, 4, 5, 6, 7, 15, 16, 17, 18, 19, 20, 21, 22, 23, 24, 25, 26, 27, 28, 29, 30, 31, 32, 33, 34, 35, 36, 37, 38, 46, 47, 48, 49, 50, 51, 52, 53, 54, 55, 56, 57, 58, 59, 60] (by decide +kernel) (by decide +kernel)
set_option maxRecDepth 20000 in
theorem gX5_lasts_X4_daysUntilOff : GoodIn wsX5_lasts (wsV RX5 175 RX4 yX4_daysUntilOff wsX4_daysUntilOff) := goodIn_app (goodIn_of _ (by decide +kernel)) ggX5_lasts_X4_daysUntilOff
theorem dX5_lasts_0 : decode cX5_lasts 0 = .ok (.aload_n 0, 1) := by decide +kernel
theorem dX5_lasts_1 : decode cX5_lasts 1 = .ok (.getfield 12, 3) := by decide +kernel
theorem dX5_lasts_4 : decode cX5_lasts 4 = .ok (.iload_n 1, 1) := by decide +kernel
theorem dX5_lasts_5 : decode cX5_lasts 5 = .ok (.invokevirtual 84, 3) := by decide +kernel
theorem dX5_lasts_8 : decode cX5_lasts 8 = .ok (.ifCond .eq 14, 3) := by decide +kernel
theorem dX5_lasts_11 : decode cX5_lasts 11 = .ok (.aload_n 0, 1) := by decide +kernel
theorem dX5_lasts_12 : decode cX5_lasts 12 = .ok (.getfield 12, 3) := by decide +kernel
theorem dX5_lasts_15 : decode cX5_lasts 15 = .ok (.iload_n 1, 1) := by decide +kernel
theorem dX5_lasts_16 : decode cX5_lasts 16 = .ok (.invokevirtual 175, 3) := by decide +kernel
theorem dX5_lasts_19 : decode cX5_lasts 19 = .ok (.goto 4, 3) := by decide +kernel
theorem dX5_lasts_22 : decode cX5_lasts 22 = .ok (.iconst (-1), 1) := by decide +kernel
theorem dX5_lasts_23 : decode cX5_lasts 23 = .ok (.ireturn, 1) := by decide +kernel
set_option maxRecDepth 20000 in
theorem ggX5_needs_X4_tellDaysUntilOff : GoodIn wsX5_needs wsX4_tellDaysUntilOff := goodIn_r _ [8, 9, 10, 11, 12, 7, 13, 14, 15, 16, 17, 18, 19, 20, 21, 22, 23, 24, 25, 26, 27, 28, 29, 30, 31, 32, 33, 34, 35, 36, 37, 38, 39, 40, 41, 42, 43, 55, 56, 57, 58, 59, 60, 61, 62, 63, 64, 65, 66, 67, 68, 69] (by decide +kernel) (by decide +kernel)
set_option maxRecDepth 20000 in
theorem gX5_needs_X4_tellDaysUntilOff : GoodIn wsX5_needs (wsV RX5 178 RX4 yX4_tellDaysUntilOff wsX4_tellDaysUntilOff) := goodIn_app (goodIn_of _ (by decide +kernel)) ggX5_needs_X4_tellDaysUntilOff
set_option maxRecDepth 20000 in
theorem ggX5_needs_X4_rankOf : GoodIn wsX5_needs wsX4_rankOf := goodIn_r _ [47, 9, 16, 17, 18, 7, 19, 55, 56, 57, 58, 59, 60, 61] (by decide +kernel) (by decide +kernel)
set_option maxRecDepth 20000 in
theorem gX5_needs_X4_rankOf : GoodIn wsX5_needs (wsV RX5 182 RX4 yX4_rankOf wsX4_rankOf) := goodIn_app (goodIn_of _ (by decide +kernel)) ggX5_needs_X4_rankOf
theorem dX5_needs_0 : decode cX5_needs 0 = .ok (.iload_n 1, 1) := by decide +kernel
theorem dX5_needs_1 : decode cX5_needs 1 = .ok (.ifCond .lt 14, 3) := by decide +kernel
theorem dX5_needs_4 : decode cX5_needs 4 = .ok (.iload_n 1, 1) := by decide +kernel
theorem dX5_needs_5 : decode cX5_needs 5 = .ok (.aload_n 0, 1) := by decide +kernel
theorem dX5_needs_6 : decode cX5_needs 6 = .ok (.getfield 12, 3) := by decide +kernel
theorem dX5_needs_9 : decode cX5_needs 9 = .ok (.getfield 144, 3) := by decide +kernel
theorem dX5_needs_12 : decode cX5_needs 12 = .ok (.if_icmp .lt 5, 3) := by decide +kernel
theorem dX5_needs_15 : decode cX5_needs 15 = .ok (.iconst (-1), 1) := by decide +kernel
theorem dX5_needs_16 : decode cX5_needs 16 = .ok (.ireturn, 1) := by decide +kernel
theorem dX5_needs_17 : decode cX5_needs 17 = .ok (.aload_n 0, 1) := by decide +kernel
theorem dX5_needs_18 : decode cX5_needs 18 = .ok (.getfield 12, 3) := by decide +kernel
theorem dX5_needs_21 : decode cX5_needs 21 = .ok (.aload_n 0, 1) := by decide +kernel
theorem dX5_needs_22 : decode cX5_needs 22 = .ok (.getfield 45, 3) := by decide +kernel
theorem dX5_needs_25 : decode cX5_needs 25 = .ok (.invokevirtual 178, 3) := by decide +kernel
theorem dX5_needs_28 : decode cX5_needs 28 = .ok (.iconst 0, 1) := by decide +kernel
theorem dX5_needs_29 : decode cX5_needs 29 = .ok (.istore_n 2, 1) := by decide +kernel
theorem dX5_needs_30 : decode cX5_needs 30 = .ok (.iload_n 2, 1) := by decide +kernel
theorem dX5_needs_31 : decode cX5_needs 31 = .ok (.aload_n 0, 1) := by decide +kernel
theorem dX5_needs_32 : decode cX5_needs 32 = .ok (.getfield 12, 3) := by decide +kernel
theorem dX5_needs_35 : decode cX5_needs 35 = .ok (.getfield 144, 3) := by decide +kernel
theorem dX5_needs_38 : decode cX5_needs 38 = .ok (.if_icmp .ge 27, 3) := by decide +kernel
theorem dX5_needs_41 : decode cX5_needs 41 = .ok (.aload_n 0, 1) := by decide +kernel
theorem dX5_needs_42 : decode cX5_needs 42 = .ok (.getfield 12, 3) := by decide +kernel
theorem dX5_needs_45 : decode cX5_needs 45 = .ok (.iload_n 2, 1) := by decide +kernel
theorem dX5_needs_46 : decode cX5_needs 46 = .ok (.aload_n 0, 1) := by decide +kernel
theorem dX5_needs_47 : decode cX5_needs 47 = .ok (.getfield 45, 3) := by decide +kernel
theorem dX5_needs_50 : decode cX5_needs 50 = .ok (.invokevirtual 182, 3) := by decide +kernel
theorem dX5_needs_53 : decode cX5_needs 53 = .ok (.iload_n 1, 1) := by decide +kernel
theorem dX5_needs_54 : decode cX5_needs 54 = .ok (.if_icmp .ne 5, 3) := by decide +kernel
theorem dX5_needs_57 : decode cX5_needs 57 = .ok (.iload_n 2, 1) := by decide +kernel
theorem dX5_needs_58 : decode cX5_needs 58 = .ok (.ireturn, 1) := by decide +kernel
theorem dX5_needs_59 : decode cX5_needs 59 = .ok (.iinc 2 1, 3) := by decide +kernel
theorem dX5_needs_62 : decode cX5_needs 62 = .ok (.goto (-32), 3) := by decide +kernel
theorem dX5_needs_65 : decode cX5_needs 65 = .ok (.iconst (-1), 1) := by decide +kernel
theorem dX5_needs_66 : decode cX5_needs 66 = .ok (.ireturn, 1) := by decide +kernel
set_option maxRecDepth 20000 in
theorem ggX5_ladderFor_X4_rungsOutOfReach : GoodIn wsX5_ladderFor wsX4_rungsOutOfReach := goodIn_r _ [7, 8, 9, 10, 11, 12, 13, 14, 15, 16, 17, 6, 18, 19, 20, 21, 22, 23, 24, 32, 33, 34, 35, 36, 37, 38, 39, 40, 41, 42, 43, 44, 45, 46] (by decide +kernel) (by decide +kernel)
set_option maxRecDepth 20000 in
theorem gX5_ladderFor_X4_rungsOutOfReach : GoodIn wsX5_ladderFor (wsV RX5 186 RX4 yX4_rungsOutOfReach wsX4_rungsOutOfReach) := goodIn_app (goodIn_of _ (by decide +kernel)) ggX5_ladderFor_X4_rungsOutOfReach
theorem dX5_ladderFor_0 : decode cX5_ladderFor 0 = .ok (.aload_n 0, 1) := by decide +kernel
theorem dX5_ladderFor_1 : decode cX5_ladderFor 1 = .ok (.getfield 12, 3) := by decide +kernel
theorem dX5_ladderFor_4 : decode cX5_ladderFor 4 = .ok (.getfield 147, 3) := by decide +kernel
theorem dX5_ladderFor_7 : decode cX5_ladderFor 7 = .ok (.iconst 4, 1) := by decide +kernel
theorem dX5_ladderFor_8 : decode cX5_ladderFor 8 = .ok (.if_icmp .lt 6, 3) := by decide +kernel
theorem dX5_ladderFor_11 : decode cX5_ladderFor 11 = .ok (.bipush (-4), 2) := by decide +kernel
theorem dX5_ladderFor_13 : decode cX5_ladderFor 13 = .ok (.ireturn, 1) := by decide +kernel
theorem dX5_ladderFor_14 : decode cX5_ladderFor 14 = .ok (.aload_n 0, 1) := by decide +kernel
theorem dX5_ladderFor_15 : decode cX5_ladderFor 15 = .ok (.getfield 12, 3) := by decide +kernel
theorem dX5_ladderFor_18 : decode cX5_ladderFor 18 = .ok (.invokevirtual 186, 3) := by decide +kernel
theorem dX5_ladderFor_21 : decode cX5_ladderFor 21 = .ok (.istore_n 1, 1) := by decide +kernel
theorem dX5_ladderFor_22 : decode cX5_ladderFor 22 = .ok (.iload_n 1, 1) := by decide +kernel
theorem dX5_ladderFor_23 : decode cX5_ladderFor 23 = .ok (.ifCond .ne 8, 3) := by decide +kernel
theorem dX5_ladderFor_26 : decode cX5_ladderFor 26 = .ok (.bipush (-6), 2) := by decide +kernel
theorem dX5_ladderFor_28 : decode cX5_ladderFor 28 = .ok (.goto 4, 3) := by decide +kernel
theorem dX5_ladderFor_31 : decode cX5_ladderFor 31 = .ok (.iload_n 1, 1) := by decide +kernel
theorem dX5_ladderFor_32 : decode cX5_ladderFor 32 = .ok (.ireturn, 1) := by decide +kernel
set_option maxRecDepth 20000 in
theorem ggX5_wayRound_X5_chooseRow : GoodIn wsX5_wayRound wsX5_chooseRow := goodIn_r _ [7, 2, 1, 8, 9, 10, 11, 12, 13, 14, 15, 16, 17, 18, 19, 20, 58, 59, 60, 61, 62, 63, 64, 65, 66, 67, 68, 69, 70, 71, 72, 73] (by decide +kernel) (by decide +kernel)
set_option maxRecDepth 20000 in
theorem gX5_wayRound_X5_chooseRow : GoodIn wsX5_wayRound (wsV RX5 71 RX5 yX5_chooseRow wsX5_chooseRow) := goodIn_app (goodIn_of _ (by decide +kernel)) ggX5_wayRound_X5_chooseRow
set_option maxRecDepth 20000 in
theorem ggX5_wayRound_X4_minutesOf : GoodIn wsX5_wayRound wsX4_minutesOf := goodIn_r _ [25, 26, 27, 28, 29, 30, 31, 32, 33, 34, 35, 36, 13, 37, 15, 20, 38, 39, 40, 24, 41, 42, 43, 44, 45, 46, 47, 48, 49, 50, 51, 52, 53, 72, 73, 65, 66, 67, 68, 69, 70, 71, 74, 75, 76, 77, 78, 79, 80, 81] (by decide +kernel) (by decide +kernel)
set_option maxRecDepth 20000 in
theorem gX5_wayRound_X4_minutesOf : GoodIn wsX5_wayRound (wsV RX5 172 RX4 yX4_minutesOf wsX4_minutesOf) := goodIn_app (goodIn_of _ (by decide +kernel)) ggX5_wayRound_X4_minutesOf
set_option maxRecDepth 20000 in
theorem ggX5_wayRound_X3_turnRound : GoodIn wsX5_wayRound wsX3_turnRound := goodIn_r _ [57, 15, 20, 72, 73] (by decide +kernel) (by decide +kernel)
set_option maxRecDepth 20000 in
theorem gX5_wayRound_X3_turnRound : GoodIn wsX5_wayRound (wsV RX5 189 RX3 yX3_turnRound wsX3_turnRound) := goodIn_app (goodIn_of _ (by decide +kernel)) ggX5_wayRound_X3_turnRound
theorem dX5_wayRound_0 : decode cX5_wayRound 0 = .ok (.aload_n 0, 1) := by decide +kernel
theorem dX5_wayRound_1 : decode cX5_wayRound 1 = .ok (.iload_n 1, 1) := by decide +kernel
theorem dX5_wayRound_2 : decode cX5_wayRound 2 = .ok (.invokevirtual 71, 3) := by decide +kernel
theorem dX5_wayRound_5 : decode cX5_wayRound 5 = .ok (.istore_n 2, 1) := by decide +kernel
theorem dX5_wayRound_6 : decode cX5_wayRound 6 = .ok (.iload_n 2, 1) := by decide +kernel
theorem dX5_wayRound_7 : decode cX5_wayRound 7 = .ok (.ifCond .ge 5, 3) := by decide +kernel
theorem dX5_wayRound_10 : decode cX5_wayRound 10 = .ok (.iload_n 2, 1) := by decide +kernel
theorem dX5_wayRound_11 : decode cX5_wayRound 11 = .ok (.ireturn, 1) := by decide +kernel
theorem dX5_wayRound_12 : decode cX5_wayRound 12 = .ok (.aload_n 0, 1) := by decide +kernel
theorem dX5_wayRound_13 : decode cX5_wayRound 13 = .ok (.getfield 12, 3) := by decide +kernel
theorem dX5_wayRound_16 : decode cX5_wayRound 16 = .ok (.aload_n 0, 1) := by decide +kernel
theorem dX5_wayRound_17 : decode cX5_wayRound 17 = .ok (.getfield 41, 3) := by decide +kernel
theorem dX5_wayRound_20 : decode cX5_wayRound 20 = .ok (.invokevirtual 172, 3) := by decide +kernel
theorem dX5_wayRound_23 : decode cX5_wayRound 23 = .ok (.istore_n 3, 1) := by decide +kernel
theorem dX5_wayRound_24 : decode cX5_wayRound 24 = .ok (.aload_n 0, 1) := by decide +kernel
theorem dX5_wayRound_25 : decode cX5_wayRound 25 = .ok (.getfield 41, 3) := by decide +kernel
theorem dX5_wayRound_28 : decode cX5_wayRound 28 = .ok (.invokevirtual 189, 3) := by decide +kernel
theorem dX5_wayRound_31 : decode cX5_wayRound 31 = .ok (.aload_n 0, 1) := by decide +kernel
theorem dX5_wayRound_32 : decode cX5_wayRound 32 = .ok (.getfield 12, 3) := by decide +kernel
theorem dX5_wayRound_35 : decode cX5_wayRound 35 = .ok (.aload_n 0, 1) := by decide +kernel
theorem dX5_wayRound_36 : decode cX5_wayRound 36 = .ok (.getfield 41, 3) := by decide +kernel
theorem dX5_wayRound_39 : decode cX5_wayRound 39 = .ok (.invokevirtual 172, 3) := by decide +kernel
theorem dX5_wayRound_42 : decode cX5_wayRound 42 = .ok (.istore 4, 2) := by decide +kernel
theorem dX5_wayRound_44 : decode cX5_wayRound 44 = .ok (.iload_n 3, 1) := by decide +kernel
theorem dX5_wayRound_45 : decode cX5_wayRound 45 = .ok (.iload 4, 2) := by decide +kernel
theorem dX5_wayRound_47 : decode cX5_wayRound 47 = .ok (.if_icmp .ne 5, 3) := by decide +kernel
theorem dX5_wayRound_50 : decode cX5_wayRound 50 = .ok (.iconst 2, 1) := by decide +kernel
theorem dX5_wayRound_51 : decode cX5_wayRound 51 = .ok (.ireturn, 1) := by decide +kernel
theorem dX5_wayRound_52 : decode cX5_wayRound 52 = .ok (.iload_n 3, 1) := by decide +kernel
theorem dX5_wayRound_53 : decode cX5_wayRound 53 = .ok (.iload 4, 2) := by decide +kernel
theorem dX5_wayRound_55 : decode cX5_wayRound 55 = .ok (.if_icmp .ge 7, 3) := by decide +kernel
theorem dX5_wayRound_58 : decode cX5_wayRound 58 = .ok (.iconst 0, 1) := by decide +kernel
theorem dX5_wayRound_59 : decode cX5_wayRound 59 = .ok (.goto 4, 3) := by decide +kernel
theorem dX5_wayRound_62 : decode cX5_wayRound 62 = .ok (.iconst 1, 1) := by decide +kernel
theorem dX5_wayRound_63 : decode cX5_wayRound 63 = .ok (.ireturn, 1) := by decide +kernel
set_option maxRecDepth 20000 in
theorem ggX5_put_X5_signsIn : GoodIn wsX5_put wsX5_signsIn := goodIn_r _ [6, 7, 8, 5, 9] (by decide +kernel) (by decide +kernel)
set_option maxRecDepth 20000 in
theorem gX5_put_X5_signsIn : GoodIn wsX5_put (va_wsS RX5 192 yX5_signsIn wsX5_signsIn) := goodIn_app (goodIn_of _ (by decide +kernel)) ggX5_put_X5_signsIn
set_option maxRecDepth 20000 in
theorem ggX5_put_X5_codeAt : GoodIn wsX5_put wsX5_codeAt := goodIn_r _ [9] (by decide +kernel) (by decide +kernel)
set_option maxRecDepth 20000 in
theorem gX5_put_X5_codeAt : GoodIn wsX5_put (va_wsS RX5 196 yX5_codeAt wsX5_codeAt) := goodIn_app (goodIn_of _ (by decide +kernel)) ggX5_put_X5_codeAt
set_option maxRecDepth 20000 in
theorem ggX5_put_X2_append : GoodIn wsX5_put wsX2_append := goodIn_r _ [14, 15, 16, 24, 25, 26, 27, 28] (by decide +kernel) (by decide +kernel)
set_option maxRecDepth 20000 in
theorem gX5_put_X2_append : GoodIn wsX5_put (wsV RX5 200 RX2 yX2_append wsX2_append) := goodIn_app (goodIn_of _ (by decide +kernel)) ggX5_put_X2_append
theorem dX5_put_0 : decode cX5_put 0 = .ok (.lload_n 1, 1) := by decide +kernel
theorem dX5_put_1 : decode cX5_put 1 = .ok (.invokestatic 192, 3) := by decide +kernel
theorem dX5_put_4 : decode cX5_put 4 = .ok (.istore_n 3, 1) := by decide +kernel
theorem dX5_put_5 : decode cX5_put 5 = .ok (.iload_n 3, 1) := by decide +kernel
theorem dX5_put_6 : decode cX5_put 6 = .ok (.ifCond .ne 6, 3) := by decide +kernel
theorem dX5_put_9 : decode cX5_put 9 = .ok (.bipush (-2), 2) := by decide +kernel
theorem dX5_put_11 : decode cX5_put 11 = .ok (.ireturn, 1) := by decide +kernel
theorem dX5_put_12 : decode cX5_put 12 = .ok (.aload_n 0, 1) := by decide +kernel
theorem dX5_put_13 : decode cX5_put 13 = .ok (.getfield 34, 3) := by decide +kernel
theorem dX5_put_16 : decode cX5_put 16 = .ok (.getfield 166, 3) := by decide +kernel
theorem dX5_put_19 : decode cX5_put 19 = .ok (.iload_n 3, 1) := by decide +kernel
theorem dX5_put_20 : decode cX5_put 20 = .ok (.iadd, 1) := by decide +kernel
theorem dX5_put_21 : decode cX5_put 21 = .ok (.bipush 80, 2) := by decide +kernel
theorem dX5_put_23 : decode cX5_put 23 = .ok (.if_icmp .le 6, 3) := by decide +kernel
theorem dX5_put_26 : decode cX5_put 26 = .ok (.bipush (-4), 2) := by decide +kernel
theorem dX5_put_28 : decode cX5_put 28 = .ok (.ireturn, 1) := by decide +kernel
theorem dX5_put_29 : decode cX5_put 29 = .ok (.iload_n 3, 1) := by decide +kernel
theorem dX5_put_30 : decode cX5_put 30 = .ok (.iconst 1, 1) := by decide +kernel
theorem dX5_put_31 : decode cX5_put 31 = .ok (.isub, 1) := by decide +kernel
theorem dX5_put_32 : decode cX5_put 32 = .ok (.istore 4, 2) := by decide +kernel
theorem dX5_put_34 : decode cX5_put 34 = .ok (.iload 4, 2) := by decide +kernel
theorem dX5_put_36 : decode cX5_put 36 = .ok (.ifCond .lt 23, 3) := by decide +kernel
theorem dX5_put_39 : decode cX5_put 39 = .ok (.aload_n 0, 1) := by decide +kernel
theorem dX5_put_40 : decode cX5_put 40 = .ok (.getfield 34, 3) := by decide +kernel
theorem dX5_put_43 : decode cX5_put 43 = .ok (.lload_n 1, 1) := by decide +kernel
theorem dX5_put_44 : decode cX5_put 44 = .ok (.iload 4, 2) := by decide +kernel
theorem dX5_put_46 : decode cX5_put 46 = .ok (.invokestatic 196, 3) := by decide +kernel
theorem dX5_put_49 : decode cX5_put 49 = .ok (.i2c, 1) := by decide +kernel
theorem dX5_put_50 : decode cX5_put 50 = .ok (.invokevirtual 200, 3) := by decide +kernel
theorem dX5_put_53 : decode cX5_put 53 = .ok (.iinc 4 (-1), 3) := by decide +kernel
theorem dX5_put_56 : decode cX5_put 56 = .ok (.goto (-22), 3) := by decide +kernel
theorem dX5_put_59 : decode cX5_put 59 = .ok (.aload_n 0, 1) := by decide +kernel
theorem dX5_put_60 : decode cX5_put 60 = .ok (.getfield 34, 3) := by decide +kernel
theorem dX5_put_63 : decode cX5_put 63 = .ok (.getfield 166, 3) := by decide +kernel
theorem dX5_put_66 : decode cX5_put 66 = .ok (.ireturn, 1) := by decide +kernel
theorem dX5_wipe_0 : decode cX5_wipe 0 = .ok (.aload_n 0, 1) := by decide +kernel
theorem dX5_wipe_1 : decode cX5_wipe 1 = .ok (.getfield 34, 3) := by decide +kernel
theorem dX5_wipe_4 : decode cX5_wipe 4 = .ok (.getfield 166, 3) := by decide +kernel
theorem dX5_wipe_7 : decode cX5_wipe 7 = .ok (.istore_n 1, 1) := by decide +kernel
theorem dX5_wipe_8 : decode cX5_wipe 8 = .ok (.aload_n 0, 1) := by decide +kernel
theorem dX5_wipe_9 : decode cX5_wipe 9 = .ok (.getfield 34, 3) := by decide +kernel
theorem dX5_wipe_12 : decode cX5_wipe 12 = .ok (.iconst 0, 1) := by decide +kernel
theorem dX5_wipe_13 : decode cX5_wipe 13 = .ok (.putfield 166, 3) := by decide +kernel
theorem dX5_wipe_16 : decode cX5_wipe 16 = .ok (.iload_n 1, 1) := by decide +kernel
theorem dX5_wipe_17 : decode cX5_wipe 17 = .ok (.ireturn, 1) := by decide +kernel
set_option maxRecDepth 20000 in
theorem ggX5_fault_X2_findFault : GoodIn wsX5_fault wsX2_findFault := goodIn_r _ [6, 7, 8, 9, 10, 11, 5, 12, 13, 14, 15, 16, 17, 18, 19, 20, 21, 22, 23, 24, 25, 26, 27, 28, 29, 30, 31, 32, 33, 34, 35, 36, 37, 38, 39, 40, 41, 42, 43, 44, 45, 46, 47, 48, 49, 50, 51, 52, 53, 61, 62, 63, 64, 65, 66, 67] (by decide +kernel) (by decide +kernel)
set_option maxRecDepth 20000 in
theorem gX5_fault_X2_findFault : GoodIn wsX5_fault (wsV RX5 204 RX2 yX2_findFault wsX2_findFault) := goodIn_app (goodIn_of _ (by decide +kernel)) ggX5_fault_X2_findFault
theorem dX5_fault_0 : decode cX5_fault 0 = .ok (.aload_n 0, 1) := by decide +kernel
theorem dX5_fault_1 : decode cX5_fault 1 = .ok (.getfield 34, 3) := by decide +kernel
theorem dX5_fault_4 : decode cX5_fault 4 = .ok (.invokevirtual 204, 3) := by decide +kernel
theorem dX5_fault_7 : decode cX5_fault 7 = .ok (.ireturn, 1) := by decide +kernel
set_option maxRecDepth 20000 in
theorem ggX5_carryOut_X2_findFault : GoodIn wsX5_carryOut wsX2_findFault := goodIn_r _ [9, 10, 11, 12, 13, 14, 8, 15, 16, 17, 18, 19, 20, 21, 22, 23, 24, 25, 26, 27, 28, 29, 30, 31, 32, 33, 34, 35, 36, 37, 38, 39, 40, 41, 42, 43, 44, 45, 46, 47, 48, 49, 50, 51, 52, 53, 54, 55, 56, 207, 208, 209, 210, 211, 212, 213] (by decide +kernel) (by decide +kernel)
set_option maxRecDepth 20000 in
theorem gX5_carryOut_X2_findFault : GoodIn wsX5_carryOut (wsV RX5 204 RX2 yX2_findFault wsX2_findFault) := goodIn_app (goodIn_of _ (by decide +kernel)) ggX5_carryOut_X2_findFault
set_option maxRecDepth 20000 in
theorem ggX5_carryOut_X1_prepare : GoodIn wsX5_carryOut wsX1_prepare := goodIn_r _ [61, 62, 63, 64, 65, 66, 67, 68, 69, 70, 71, 72, 73, 74, 75, 76, 77, 78, 79, 80, 81, 82, 83, 84, 85, 86, 87, 88, 89, 90, 91, 92, 214, 215, 216, 217, 218, 219, 220, 221, 222, 223, 224, 225, 226, 227, 228, 229, 230] (by decide +kernel) (by decide +kernel)
set_option maxRecDepth 20000 in
theorem gX5_carryOut_X1_prepare : GoodIn wsX5_carryOut (wsV RX5 49 RX1 yX1_prepare wsX1_prepare) := goodIn_app (goodIn_of _ (by decide +kernel)) ggX5_carryOut_X1_prepare
set_option maxRecDepth 20000 in
theorem ggX5_carryOut_X5_carryOrdersOut : GoodIn wsX5_carryOut wsX5_carryOrdersOut := goodIn_r _ [97, 1, 98, 13, 14, 8, 15, 10, 99, 17, 18, 19, 20, 21, 22, 23, 24, 25, 26, 27, 28, 29, 11, 30, 31, 32, 33, 34, 35, 36, 37, 38, 39, 40, 41, 42, 43, 44, 45, 46, 47, 48, 49, 50, 51, 52, 53, 54, 55, 56, 100, 101, 102, 96, 103, 104, 105, 3, 106, 107, 108, 109, 110, 111, 112, 67, 113, 75, 76, 114, 115, 116, 117, 118, 83, 119, 85, 86, 87, 88, 89, 90, 91, 92, 120, 121, 122, 123, 77, 74, 124, 125, 126, 127, 128, 69, 79, 129, 130, 131, 132, 133, 134, 135, 136, 137, 138, 139, 140, 141, 142, 143, 144, 145, 146, 147, 148, 149, 150, 151, 152, 153, 154, 155, 156, 157, 158, 159, 160, 161, 162, 163, 164, 165, 166, 167, 168, 169, 170, 171, 172, 78, 173, 174, 175, 176, 177, 178, 179, 180, 181, 182, 183, 184, 185, 186, 187, 200, 201, 202, 203, 204, 205, 206, 207, 208, 209, 210, 211, 212, 213, 216, 217, 218, 219, 220, 221, 222, 223, 224, 225, 226, 227, 228, 229, 230] (by decide +kernel) (by decide +kernel)
set_option maxRecDepth 20000 in
theorem gX5_carryOut_X5_carryOrdersOut : GoodIn wsX5_carryOut (wsV RX5 207 RX5 yX5_carryOrdersOut wsX5_carryOrdersOut) := goodIn_app (goodIn_of _ (by decide +kernel)) ggX5_carryOut_X5_carryOrdersOut
set_option maxRecDepth 20000 in
theorem ggX5_carryOut_X5_keptIfDone : GoodIn wsX5_carryOut wsX5_keptIfDone := goodIn_r _ [191, 2, 192, 193, 194, 60, 195, 62, 196, 197, 198, 199, 63, 200, 201, 202, 203, 204, 205, 206, 214, 215] (by decide +kernel) (by decide +kernel)
set_option maxRecDepth 20000 in
theorem gX5_carryOut_X5_keptIfDone : GoodIn wsX5_carryOut (wsV RX5 57 RX5 yX5_keptIfDone wsX5_keptIfDone) := goodIn_app (goodIn_of _ (by decide +kernel)) ggX5_carryOut_X5_keptIfDone
theorem dX5_carryOut_0 : decode cX5_carryOut 0 = .ok (.aload_n 0, 1) := by decide +kernel
theorem dX5_carryOut_1 : decode cX5_carryOut 1 = .ok (.getfield 34, 3) := by decide +kernel
theorem dX5_carryOut_4 : decode cX5_carryOut 4 = .ok (.invokevirtual 204, 3) := by decide +kernel
theorem dX5_carryOut_7 : decode cX5_carryOut 7 = .ok (.bipush (-6), 2) := by decide +kernel
theorem dX5_carryOut_9 : decode cX5_carryOut 9 = .ok (.if_icmp .eq 6, 3) := by decide +kernel
theorem dX5_carryOut_12 : decode cX5_carryOut 12 = .ok (.bipush (-3), 2) := by decide +kernel
theorem dX5_carryOut_14 : decode cX5_carryOut 14 = .ok (.ireturn, 1) := by decide +kernel
theorem dX5_carryOut_15 : decode cX5_carryOut 15 = .ok (.aload_n 0, 1) := by decide +kernel
theorem dX5_carryOut_16 : decode cX5_carryOut 16 = .ok (.getfield 19, 3) := by decide +kernel
theorem dX5_carryOut_19 : decode cX5_carryOut 19 = .ok (.aload_n 0, 1) := by decide +kernel
theorem dX5_carryOut_20 : decode cX5_carryOut 20 = .ok (.getfield 12, 3) := by decide +kernel
theorem dX5_carryOut_23 : decode cX5_carryOut 23 = .ok (.invokevirtual 49, 3) := by decide +kernel
theorem dX5_carryOut_26 : decode cX5_carryOut 26 = .ok (.aload_n 0, 1) := by decide +kernel
theorem dX5_carryOut_27 : decode cX5_carryOut 27 = .ok (.invokevirtual 207, 3) := by decide +kernel
theorem dX5_carryOut_30 : decode cX5_carryOut 30 = .ok (.istore_n 1, 1) := by decide +kernel
theorem dX5_carryOut_31 : decode cX5_carryOut 31 = .ok (.aload_n 0, 1) := by decide +kernel
theorem dX5_carryOut_32 : decode cX5_carryOut 32 = .ok (.getfield 34, 3) := by decide +kernel
theorem dX5_carryOut_35 : decode cX5_carryOut 35 = .ok (.iconst 0, 1) := by decide +kernel
theorem dX5_carryOut_36 : decode cX5_carryOut 36 = .ok (.putfield 166, 3) := by decide +kernel
theorem dX5_carryOut_39 : decode cX5_carryOut 39 = .ok (.aload_n 0, 1) := by decide +kernel
theorem dX5_carryOut_40 : decode cX5_carryOut 40 = .ok (.iload_n 1, 1) := by decide +kernel
theorem dX5_carryOut_41 : decode cX5_carryOut 41 = .ok (.invokevirtual 57, 3) := by decide +kernel
theorem dX5_carryOut_44 : decode cX5_carryOut 44 = .ok (.ireturn, 1) := by decide +kernel
set_option maxRecDepth 20000 in
theorem ggX5_undo_X1_takeBack : GoodIn wsX5_undo wsX1_takeBack := goodIn_r _ [8, 9, 10, 11, 12, 13, 14, 15, 16, 17, 18, 19, 20, 21, 22, 23, 24, 25, 26, 27, 28, 29, 30, 31, 32, 33, 34, 35, 36, 37, 38, 39, 47, 48, 49, 50, 51, 52, 53, 54, 55, 56, 57, 58, 59, 60, 61, 62, 63] (by decide +kernel) (by decide +kernel)
set_option maxRecDepth 20000 in
theorem gX5_undo_X1_takeBack : GoodIn wsX5_undo (wsV RX5 210 RX1 yX1_takeBack wsX1_takeBack) := goodIn_app (goodIn_of _ (by decide +kernel)) ggX5_undo_X1_takeBack
theorem dX5_undo_0 : decode cX5_undo 0 = .ok (.aload_n 0, 1) := by decide +kernel
theorem dX5_undo_1 : decode cX5_undo 1 = .ok (.getfield 19, 3) := by decide +kernel
theorem dX5_undo_4 : decode cX5_undo 4 = .ok (.aload_n 0, 1) := by decide +kernel
theorem dX5_undo_5 : decode cX5_undo 5 = .ok (.getfield 12, 3) := by decide +kernel
theorem dX5_undo_8 : decode cX5_undo 8 = .ok (.invokevirtual 210, 3) := by decide +kernel
theorem dX5_undo_11 : decode cX5_undo 11 = .ok (.ifCond .eq 13, 3) := by decide +kernel
theorem dX5_undo_14 : decode cX5_undo 14 = .ok (.aload_n 0, 1) := by decide +kernel
theorem dX5_undo_15 : decode cX5_undo 15 = .ok (.getfield 19, 3) := by decide +kernel
theorem dX5_undo_18 : decode cX5_undo 18 = .ok (.getfield 169, 3) := by decide +kernel
theorem dX5_undo_21 : decode cX5_undo 21 = .ok (.goto 5, 3) := by decide +kernel
theorem dX5_undo_24 : decode cX5_undo 24 = .ok (.bipush (-5), 2) := by decide +kernel
theorem dX5_undo_26 : decode cX5_undo 26 = .ok (.ireturn, 1) := by decide +kernel
set_option maxRecDepth 20000 in
theorem ggX5_save_X4_copyFrom : GoodIn wsX5_save wsX4_copyFrom := goodIn_r _ [9, 10, 11, 12, 13, 14, 15, 16, 17, 18, 19, 20, 21, 22, 23, 24, 25, 26, 27, 28, 29, 30, 31, 32, 33, 41, 42, 43, 44, 45, 46, 47, 48, 49, 50, 51, 52, 53, 54, 55] (by decide +kernel) (by decide +kernel)
set_option maxRecDepth 20000 in
theorem gX5_save_X4_copyFrom : GoodIn wsX5_save (wsV RX5 214 RX4 yX4_copyFrom wsX4_copyFrom) := goodIn_app (goodIn_of _ (by decide +kernel)) ggX5_save_X4_copyFrom
theorem dX5_save_0 : decode cX5_save 0 = .ok (.iload_n 1, 1) := by decide +kernel
theorem dX5_save_1 : decode cX5_save 1 = .ok (.ifCond .lt 8, 3) := by decide +kernel
theorem dX5_save_4 : decode cX5_save 4 = .ok (.iload_n 1, 1) := by decide +kernel
theorem dX5_save_5 : decode cX5_save 5 = .ok (.iconst 2, 1) := by decide +kernel
theorem dX5_save_6 : decode cX5_save 6 = .ok (.if_icmp .lt 6, 3) := by decide +kernel
theorem dX5_save_9 : decode cX5_save 9 = .ok (.bipush (-2), 2) := by decide +kernel
theorem dX5_save_11 : decode cX5_save 11 = .ok (.ireturn, 1) := by decide +kernel
theorem dX5_save_12 : decode cX5_save 12 = .ok (.aload_n 0, 1) := by decide +kernel
theorem dX5_save_13 : decode cX5_save 13 = .ok (.getfield 23, 3) := by decide +kernel
theorem dX5_save_16 : decode cX5_save 16 = .ok (.iload_n 1, 1) := by decide +kernel
theorem dX5_save_17 : decode cX5_save 17 = .ok (.aaload, 1) := by decide +kernel
theorem dX5_save_18 : decode cX5_save 18 = .ok (.aload_n 0, 1) := by decide +kernel
theorem dX5_save_19 : decode cX5_save 19 = .ok (.getfield 12, 3) := by decide +kernel
theorem dX5_save_22 : decode cX5_save 22 = .ok (.invokevirtual 214, 3) := by decide +kernel
theorem dX5_save_25 : decode cX5_save 25 = .ok (.aload_n 0, 1) := by decide +kernel
theorem dX5_save_26 : decode cX5_save 26 = .ok (.getfield 27, 3) := by decide +kernel
theorem dX5_save_29 : decode cX5_save 29 = .ok (.iload_n 1, 1) := by decide +kernel
theorem dX5_save_30 : decode cX5_save 30 = .ok (.iconst 1, 1) := by decide +kernel
theorem dX5_save_31 : decode cX5_save 31 = .ok (.bastore, 1) := by decide +kernel
theorem dX5_save_32 : decode cX5_save 32 = .ok (.aload_n 0, 1) := by decide +kernel
theorem dX5_save_33 : decode cX5_save 33 = .ok (.getfield 12, 3) := by decide +kernel
theorem dX5_save_36 : decode cX5_save 36 = .ok (.getfield 144, 3) := by decide +kernel
theorem dX5_save_39 : decode cX5_save 39 = .ok (.ireturn, 1) := by decide +kernel
set_option maxRecDepth 20000 in
theorem ggX5_restore_X1_prepare : GoodIn wsX5_restore wsX1_prepare := goodIn_r _ [10, 11, 12, 13, 14, 15, 16, 17, 18, 19, 20, 21, 22, 23, 24, 25, 26, 27, 28, 29, 30, 31, 32, 33, 34, 35, 36, 37, 38, 39, 40, 41, 70, 71, 63, 64, 65, 66, 67, 68, 69, 72, 73, 74, 75, 76, 77, 78, 79] (by decide +kernel) (by decide +kernel)
set_option maxRecDepth 20000 in
theorem gX5_restore_X1_prepare : GoodIn wsX5_restore (wsV RX5 49 RX1 yX1_prepare wsX1_prepare) := goodIn_app (goodIn_of _ (by decide +kernel)) ggX5_restore_X1_prepare
set_option maxRecDepth 20000 in
theorem ggX5_restore_X4_copyFrom : GoodIn wsX5_restore wsX4_copyFrom := goodIn_r _ [17, 18, 19, 20, 21, 22, 23, 24, 25, 26, 27, 28, 29, 30, 31, 32, 33, 34, 35, 36, 37, 38, 39, 40, 41, 63, 64, 65, 66, 67, 68, 69, 72, 73, 74, 75, 76, 77, 78, 79] (by decide +kernel) (by decide +kernel)
set_option maxRecDepth 20000 in
theorem gX5_restore_X4_copyFrom : GoodIn wsX5_restore (wsV RX5 214 RX4 yX4_copyFrom wsX4_copyFrom) := goodIn_app (goodIn_of _ (by decide +kernel)) ggX5_restore_X4_copyFrom
set_option maxRecDepth 20000 in
theorem ggX5_restore_X5_keptIfDone : GoodIn wsX5_restore wsX5_keptIfDone := goodIn_r _ [47, 2, 48, 49, 50, 9, 51, 11, 52, 53, 54, 55, 12, 56, 57, 58, 59, 60, 61, 62, 70, 71] (by decide +kernel) (by decide +kernel)
set_option maxRecDepth 20000 in
theorem gX5_restore_X5_keptIfDone : GoodIn wsX5_restore (wsV RX5 57 RX5 yX5_keptIfDone wsX5_keptIfDone) := goodIn_app (goodIn_of _ (by decide +kernel)) ggX5_restore_X5_keptIfDone
theorem dX5_restore_0 : decode cX5_restore 0 = .ok (.iload_n 1, 1) := by decide +kernel
theorem dX5_restore_1 : decode cX5_restore 1 = .ok (.ifCond .lt 8, 3) := by decide +kernel
theorem dX5_restore_4 : decode cX5_restore 4 = .ok (.iload_n 1, 1) := by decide +kernel
theorem dX5_restore_5 : decode cX5_restore 5 = .ok (.iconst 2, 1) := by decide +kernel
theorem dX5_restore_6 : decode cX5_restore 6 = .ok (.if_icmp .lt 6, 3) := by decide +kernel
theorem dX5_restore_9 : decode cX5_restore 9 = .ok (.bipush (-2), 2) := by decide +kernel
theorem dX5_restore_11 : decode cX5_restore 11 = .ok (.ireturn, 1) := by decide +kernel
theorem dX5_restore_12 : decode cX5_restore 12 = .ok (.aload_n 0, 1) := by decide +kernel
theorem dX5_restore_13 : decode cX5_restore 13 = .ok (.getfield 27, 3) := by decide +kernel
theorem dX5_restore_16 : decode cX5_restore 16 = .ok (.iload_n 1, 1) := by decide +kernel
theorem dX5_restore_17 : decode cX5_restore 17 = .ok (.baload, 1) := by decide +kernel
theorem dX5_restore_18 : decode cX5_restore 18 = .ok (.ifCond .ne 6, 3) := by decide +kernel
theorem dX5_restore_21 : decode cX5_restore 21 = .ok (.bipush (-5), 2) := by decide +kernel
theorem dX5_restore_23 : decode cX5_restore 23 = .ok (.ireturn, 1) := by decide +kernel
theorem dX5_restore_24 : decode cX5_restore 24 = .ok (.aload_n 0, 1) := by decide +kernel
theorem dX5_restore_25 : decode cX5_restore 25 = .ok (.getfield 19, 3) := by decide +kernel
theorem dX5_restore_28 : decode cX5_restore 28 = .ok (.aload_n 0, 1) := by decide +kernel
theorem dX5_restore_29 : decode cX5_restore 29 = .ok (.getfield 12, 3) := by decide +kernel
theorem dX5_restore_32 : decode cX5_restore 32 = .ok (.invokevirtual 49, 3) := by decide +kernel
theorem dX5_restore_35 : decode cX5_restore 35 = .ok (.aload_n 0, 1) := by decide +kernel
theorem dX5_restore_36 : decode cX5_restore 36 = .ok (.getfield 12, 3) := by decide +kernel
theorem dX5_restore_39 : decode cX5_restore 39 = .ok (.aload_n 0, 1) := by decide +kernel
theorem dX5_restore_40 : decode cX5_restore 40 = .ok (.getfield 23, 3) := by decide +kernel
theorem dX5_restore_43 : decode cX5_restore 43 = .ok (.iload_n 1, 1) := by decide +kernel
theorem dX5_restore_44 : decode cX5_restore 44 = .ok (.aaload, 1) := by decide +kernel
theorem dX5_restore_45 : decode cX5_restore 45 = .ok (.invokevirtual 214, 3) := by decide +kernel
theorem dX5_restore_48 : decode cX5_restore 48 = .ok (.aload_n 0, 1) := by decide +kernel
theorem dX5_restore_49 : decode cX5_restore 49 = .ok (.aload_n 0, 1) := by decide +kernel
theorem dX5_restore_50 : decode cX5_restore 50 = .ok (.getfield 12, 3) := by decide +kernel
theorem dX5_restore_53 : decode cX5_restore 53 = .ok (.getfield 144, 3) := by decide +kernel
theorem dX5_restore_56 : decode cX5_restore 56 = .ok (.invokevirtual 57, 3) := by decide +kernel
theorem dX5_restore_59 : decode cX5_restore 59 = .ok (.ireturn, 1) := by decide +kernel
set_option maxRecDepth 20000 in
theorem ggX5_keptIfDone_X1_keepPrepared : GoodIn wsX5_keptIfDone wsX1_keepPrepared := goodIn_r _ [6, 7, 8, 9, 10, 5, 11, 12, 20, 21] (by decide +kernel) (by decide +kernel)
set_option maxRecDepth 20000 in
theorem gX5_keptIfDone_X1_keepPrepared : GoodIn wsX5_keptIfDone (wsV RX5 217 RX1 yX1_keepPrepared wsX1_keepPrepared) := goodIn_app (goodIn_of _ (by decide +kernel)) ggX5_keptIfDone_X1_keepPrepared
theorem dX5_keptIfDone_0 : decode cX5_keptIfDone 0 = .ok (.iload_n 1, 1) := by decide +kernel
theorem dX5_keptIfDone_1 : decode cX5_keptIfDone 1 = .ok (.ifCond .lt 10, 3) := by decide +kernel
theorem dX5_keptIfDone_4 : decode cX5_keptIfDone 4 = .ok (.aload_n 0, 1) := by decide +kernel
theorem dX5_keptIfDone_5 : decode cX5_keptIfDone 5 = .ok (.getfield 19, 3) := by decide +kernel
theorem dX5_keptIfDone_8 : decode cX5_keptIfDone 8 = .ok (.invokevirtual 217, 3) := by decide +kernel
theorem dX5_keptIfDone_11 : decode cX5_keptIfDone 11 = .ok (.iload_n 1, 1) := by decide +kernel
theorem dX5_keptIfDone_12 : decode cX5_keptIfDone 12 = .ok (.ireturn, 1) := by decide +kernel
set_option maxRecDepth 20000 in
theorem ggX5_chooseRow_X3_clear : GoodIn wsX5_chooseRow wsX3_clear := goodIn_r _ [9, 10, 30, 31] (by decide +kernel) (by decide +kernel)
set_option maxRecDepth 20000 in
theorem gX5_chooseRow_X3_clear : GoodIn wsX5_chooseRow (wsV RX5 220 RX3 yX3_clear wsX3_clear) := goodIn_app (goodIn_of _ (by decide +kernel)) ggX5_chooseRow_X3_clear
set_option maxRecDepth 20000 in
theorem ggX5_chooseRow_X3_add : GoodIn wsX5_chooseRow wsX3_add := goodIn_r _ [14, 10, 15, 30, 31] (by decide +kernel) (by decide +kernel)
set_option maxRecDepth 20000 in
theorem gX5_chooseRow_X3_add : GoodIn wsX5_chooseRow (wsV RX5 223 RX3 yX3_add wsX3_add) := goodIn_app (goodIn_of _ (by decide +kernel)) ggX5_chooseRow_X3_add
theorem dX5_chooseRow_0 : decode cX5_chooseRow 0 = .ok (.iload_n 1, 1) := by decide +kernel
theorem dX5_chooseRow_1 : decode cX5_chooseRow 1 = .ok (.ifCond .ge 6, 3) := by decide +kernel
theorem dX5_chooseRow_4 : decode cX5_chooseRow 4 = .ok (.bipush (-2), 2) := by decide +kernel
theorem dX5_chooseRow_6 : decode cX5_chooseRow 6 = .ok (.ireturn, 1) := by decide +kernel
theorem dX5_chooseRow_7 : decode cX5_chooseRow 7 = .ok (.aload_n 0, 1) := by decide +kernel
theorem dX5_chooseRow_8 : decode cX5_chooseRow 8 = .ok (.getfield 41, 3) := by decide +kernel
theorem dX5_chooseRow_11 : decode cX5_chooseRow 11 = .ok (.invokevirtual 220, 3) := by decide +kernel
theorem dX5_chooseRow_14 : decode cX5_chooseRow 14 = .ok (.iconst 0, 1) := by decide +kernel
theorem dX5_chooseRow_15 : decode cX5_chooseRow 15 = .ok (.istore_n 2, 1) := by decide +kernel
theorem dX5_chooseRow_16 : decode cX5_chooseRow 16 = .ok (.iload_n 2, 1) := by decide +kernel
theorem dX5_chooseRow_17 : decode cX5_chooseRow 17 = .ok (.aload_n 0, 1) := by decide +kernel
theorem dX5_chooseRow_18 : decode cX5_chooseRow 18 = .ok (.getfield 12, 3) := by decide +kernel
theorem dX5_chooseRow_21 : decode cX5_chooseRow 21 = .ok (.getfield 144, 3) := by decide +kernel
theorem dX5_chooseRow_24 : decode cX5_chooseRow 24 = .ok (.if_icmp .ge 27, 3) := by decide +kernel
theorem dX5_chooseRow_27 : decode cX5_chooseRow 27 = .ok (.iload_n 1, 1) := by decide +kernel
theorem dX5_chooseRow_28 : decode cX5_chooseRow 28 = .ok (.iload_n 2, 1) := by decide +kernel
theorem dX5_chooseRow_29 : decode cX5_chooseRow 29 = .ok (.ishr, 1) := by decide +kernel
theorem dX5_chooseRow_30 : decode cX5_chooseRow 30 = .ok (.iconst 1, 1) := by decide +kernel
theorem dX5_chooseRow_31 : decode cX5_chooseRow 31 = .ok (.iand, 1) := by decide +kernel
theorem dX5_chooseRow_32 : decode cX5_chooseRow 32 = .ok (.iconst 1, 1) := by decide +kernel
theorem dX5_chooseRow_33 : decode cX5_chooseRow 33 = .ok (.if_icmp .ne 12, 3) := by decide +kernel
theorem dX5_chooseRow_36 : decode cX5_chooseRow 36 = .ok (.aload_n 0, 1) := by decide +kernel
theorem dX5_chooseRow_37 : decode cX5_chooseRow 37 = .ok (.getfield 41, 3) := by decide +kernel
theorem dX5_chooseRow_40 : decode cX5_chooseRow 40 = .ok (.iload_n 2, 1) := by decide +kernel
theorem dX5_chooseRow_41 : decode cX5_chooseRow 41 = .ok (.invokevirtual 223, 3) := by decide +kernel
theorem dX5_chooseRow_44 : decode cX5_chooseRow 44 = .ok (.pop, 1) := by decide +kernel
theorem dX5_chooseRow_45 : decode cX5_chooseRow 45 = .ok (.iinc 2 1, 3) := by decide +kernel
theorem dX5_chooseRow_48 : decode cX5_chooseRow 48 = .ok (.goto (-32), 3) := by decide +kernel
theorem dX5_chooseRow_51 : decode cX5_chooseRow 51 = .ok (.aload_n 0, 1) := by decide +kernel
theorem dX5_chooseRow_52 : decode cX5_chooseRow 52 = .ok (.getfield 41, 3) := by decide +kernel
theorem dX5_chooseRow_55 : decode cX5_chooseRow 55 = .ok (.getfield 226, 3) := by decide +kernel
theorem dX5_chooseRow_58 : decode cX5_chooseRow 58 = .ok (.ifCond .ne 8, 3) := by decide +kernel
theorem dX5_chooseRow_61 : decode cX5_chooseRow 61 = .ok (.bipush (-5), 2) := by decide +kernel
theorem dX5_chooseRow_63 : decode cX5_chooseRow 63 = .ok (.goto 10, 3) := by decide +kernel
theorem dX5_chooseRow_66 : decode cX5_chooseRow 66 = .ok (.aload_n 0, 1) := by decide +kernel
theorem dX5_chooseRow_67 : decode cX5_chooseRow 67 = .ok (.getfield 41, 3) := by decide +kernel
theorem dX5_chooseRow_70 : decode cX5_chooseRow 70 = .ok (.getfield 226, 3) := by decide +kernel
theorem dX5_chooseRow_73 : decode cX5_chooseRow 73 = .ok (.ireturn, 1) := by decide +kernel
set_option maxRecDepth 20000 in
theorem ggX5_carryOrdersOut_X2_goToStart : GoodIn wsX5_carryOrdersOut wsX2_goToStart := goodIn_r _ [6, 7, 164, 165, 166, 167, 168] (by decide +kernel) (by decide +kernel)
set_option maxRecDepth 20000 in
theorem gX5_carryOrdersOut_X2_goToStart : GoodIn wsX5_carryOrdersOut (wsV RX5 227 RX2 yX2_goToStart wsX2_goToStart) := goodIn_app (goodIn_of _ (by decide +kernel)) ggX5_carryOrdersOut_X2_goToStart
set_option maxRecDepth 20000 in
theorem ggX5_carryOrdersOut_X2_readNext : GoodIn wsX5_carryOrdersOut wsX2_readNext := goodIn_r _ [11, 7, 12, 13, 14, 15, 16, 5, 17, 18, 19, 20, 21, 22, 23, 24, 25, 26, 27, 28, 29, 30, 31, 32, 33, 34, 35, 36, 37, 38, 39, 40, 41, 42, 43, 44, 45, 46, 47, 48, 49, 164, 165, 166, 167, 168, 169, 170] (by decide +kernel) (by decide +kernel)
set_option maxRecDepth 20000 in
theorem gX5_carryOrdersOut_X2_readNext : GoodIn wsX5_carryOrdersOut (wsV RX5 230 RX2 yX2_readNext wsX2_readNext) := goodIn_app (goodIn_of _ (by decide +kernel)) ggX5_carryOrdersOut_X2_readNext
set_option maxRecDepth 20000 in
theorem ggX5_carryOrdersOut_X5_carryOneOut : GoodIn wsX5_carryOrdersOut wsX5_carryOneOut := goodIn_r _ [54, 1, 55, 56, 57, 58, 59, 60, 27, 61, 29, 41, 62, 63, 64, 65, 66, 67, 68, 69, 53, 70, 71, 72, 73, 74, 75, 76, 77, 78, 79, 80, 81, 82, 83, 84, 85, 86, 87, 88, 89, 90, 91, 92, 93, 94, 95, 96, 97, 98, 99, 100, 101, 102, 103, 104, 105, 106, 107, 108, 109, 110, 111, 112, 113, 114, 115, 116, 117, 118, 119, 120, 121, 122, 123, 124, 125, 126, 127, 128, 129, 130, 131, 132, 133, 134, 135, 136, 137, 138, 139, 140, 141, 142, 143, 144, 145, 146, 147, 148, 149, 150, 151, 152, 153, 154, 155, 156, 157, 158, 159, 160, 161, 162, 163, 164, 165, 166, 167, 168, 169, 170, 171, 172, 173, 174, 175, 176, 177, 178, 179, 180, 181, 182, 183, 184, 185] (by decide +kernel) (by decide +kernel)
set_option maxRecDepth 20000 in
theorem gX5_carryOrdersOut_X5_carryOneOut : GoodIn wsX5_carryOrdersOut (wsV RX5 234 RX5 yX5_carryOneOut wsX5_carryOneOut) := goodIn_app (goodIn_of _ (by decide +kernel)) ggX5_carryOrdersOut_X5_carryOneOut
theorem dX5_carryOrdersOut_0 : decode cX5_carryOrdersOut 0 = .ok (.aload_n 0, 1) := by decide +kernel
theorem dX5_carryOrdersOut_1 : decode cX5_carryOrdersOut 1 = .ok (.getfield 34, 3) := by decide +kernel
theorem dX5_carryOrdersOut_4 : decode cX5_carryOrdersOut 4 = .ok (.invokevirtual 227, 3) := by decide +kernel
theorem dX5_carryOrdersOut_7 : decode cX5_carryOrdersOut 7 = .ok (.iconst 0, 1) := by decide +kernel
theorem dX5_carryOrdersOut_8 : decode cX5_carryOrdersOut 8 = .ok (.istore_n 1, 1) := by decide +kernel
theorem dX5_carryOrdersOut_9 : decode cX5_carryOrdersOut 9 = .ok (.iload_n 1, 1) := by decide +kernel
theorem dX5_carryOrdersOut_10 : decode cX5_carryOrdersOut 10 = .ok (.bipush 80, 2) := by decide +kernel
theorem dX5_carryOrdersOut_12 : decode cX5_carryOrdersOut 12 = .ok (.if_icmp .ge 28, 3) := by decide +kernel
theorem dX5_carryOrdersOut_15 : decode cX5_carryOrdersOut 15 = .ok (.aload_n 0, 1) := by decide +kernel
theorem dX5_carryOrdersOut_16 : decode cX5_carryOrdersOut 16 = .ok (.getfield 34, 3) := by decide +kernel
theorem dX5_carryOrdersOut_19 : decode cX5_carryOrdersOut 19 = .ok (.invokevirtual 230, 3) := by decide +kernel
theorem dX5_carryOrdersOut_22 : decode cX5_carryOrdersOut 22 = .ok (.ifCond .eq 10, 3) := by decide +kernel
theorem dX5_carryOrdersOut_25 : decode cX5_carryOrdersOut 25 = .ok (.aload_n 0, 1) := by decide +kernel
theorem dX5_carryOrdersOut_26 : decode cX5_carryOrdersOut 26 = .ok (.invokevirtual 234, 3) := by decide +kernel
theorem dX5_carryOrdersOut_29 : decode cX5_carryOrdersOut 29 = .ok (.ifCond .ge 5, 3) := by decide +kernel
theorem dX5_carryOrdersOut_32 : decode cX5_carryOrdersOut 32 = .ok (.iload_n 1, 1) := by decide +kernel
theorem dX5_carryOrdersOut_33 : decode cX5_carryOrdersOut 33 = .ok (.ireturn, 1) := by decide +kernel
theorem dX5_carryOrdersOut_34 : decode cX5_carryOrdersOut 34 = .ok (.iinc 1 1, 3) := by decide +kernel
theorem dX5_carryOrdersOut_37 : decode cX5_carryOrdersOut 37 = .ok (.goto (-28), 3) := by decide +kernel
theorem dX5_carryOrdersOut_40 : decode cX5_carryOrdersOut 40 = .ok (.bipush 80, 2) := by decide +kernel
theorem dX5_carryOrdersOut_42 : decode cX5_carryOrdersOut 42 = .ok (.ireturn, 1) := by decide +kernel
set_option maxRecDepth 20000 in
theorem ggX5_carryOneOut_X3_at : GoodIn wsX5_carryOneOut wsX3_at := goodIn_r _ [9, 10, 11, 120, 121] (by decide +kernel) (by decide +kernel)
set_option maxRecDepth 20000 in
theorem gX5_carryOneOut_X3_at : GoodIn wsX5_carryOneOut (wsV RX5 243 RX3 yX3_at wsX3_at) := goodIn_app (goodIn_of _ (by decide +kernel)) ggX5_carryOneOut_X3_at
set_option maxRecDepth 20000 in
theorem ggX5_carryOneOut_X4_addClock : GoodIn wsX5_carryOneOut wsX4_addClock := goodIn_r _ [16, 17, 18, 19, 20, 21, 22, 23, 24, 25, 26, 27, 28, 29, 30, 31, 32, 33, 34, 122, 123, 124, 125, 126, 127, 128, 129, 130, 131, 132, 133, 134, 135, 136] (by decide +kernel) (by decide +kernel)
set_option maxRecDepth 20000 in
theorem gX5_carryOneOut_X4_addClock : GoodIn wsX5_carryOneOut (wsV RX5 61 RX4 yX4_addClock wsX4_addClock) := goodIn_app (goodIn_of _ (by decide +kernel)) ggX5_carryOneOut_X4_addClock
set_option maxRecDepth 20000 in
theorem ggX5_carryOneOut_X4_addLadder : GoodIn wsX5_carryOneOut wsX4_addLadder := goodIn_r _ [38, 39, 40, 19, 20, 21, 122, 123, 124, 125, 126, 127, 128] (by decide +kernel) (by decide +kernel)
set_option maxRecDepth 20000 in
theorem gX5_carryOneOut_X4_addLadder : GoodIn wsX5_carryOneOut (wsV RX5 65 RX4 yX4_addLadder wsX4_addLadder) := goodIn_app (goodIn_of _ (by decide +kernel)) ggX5_carryOneOut_X4_addLadder
set_option maxRecDepth 20000 in
theorem ggX5_carryOneOut_X4_walkBeat : GoodIn wsX5_carryOneOut wsX4_walkBeat := goodIn_r _ [44, 45, 18, 46, 47, 48, 49, 50, 15, 51, 52, 53, 54, 55, 56, 57, 6, 7, 8, 9, 10, 11, 58, 59, 60, 61, 17, 62, 63, 64, 65, 66, 39, 40, 67, 68, 69, 70, 71, 72, 73, 25, 74, 34, 31, 32, 33, 75, 76, 77, 78, 79, 80, 81, 82, 83, 30, 84, 85, 86, 87, 29, 120, 121, 122, 123, 124, 125, 126, 127, 128, 129, 130, 131, 132, 133, 134, 135, 136] (by decide +kernel) (by decide +kernel)
set_option maxRecDepth 20000 in
theorem gX5_carryOneOut_X4_walkBeat : GoodIn wsX5_carryOneOut (wsV RX5 74 RX4 yX4_walkBeat wsX4_walkBeat) := goodIn_app (goodIn_of _ (by decide +kernel)) ggX5_carryOneOut_X4_walkBeat
set_option maxRecDepth 20000 in
theorem ggX5_carryOneOut_X4_passDays : GoodIn wsX5_carryOneOut wsX4_passDays := goodIn_r _ [91, 92, 17, 18, 46, 19, 20, 21, 93, 94, 95, 25, 96, 34, 31, 32, 97, 84, 85, 86, 87, 29, 30, 98, 99, 100, 15, 101, 102, 122, 123, 124, 125, 126, 127, 128, 129, 130, 131, 132, 133, 134, 135, 136] (by decide +kernel) (by decide +kernel)
set_option maxRecDepth 20000 in
theorem gX5_carryOneOut_X4_passDays : GoodIn wsX5_carryOneOut (wsV RX5 78 RX4 yX4_passDays wsX4_passDays) := goodIn_app (goodIn_of _ (by decide +kernel)) ggX5_carryOneOut_X4_passDays
set_option maxRecDepth 20000 in
theorem ggX5_carryOneOut_X4_changeClocks : GoodIn wsX5_carryOneOut wsX4_changeClocks := goodIn_r _ [106, 17, 18, 102, 107, 98, 99, 100, 15, 101, 122, 123, 124, 125, 126, 127, 128, 129, 130, 131, 132, 133, 134, 135, 136] (by decide +kernel) (by decide +kernel)
set_option maxRecDepth 20000 in
theorem gX5_carryOneOut_X4_changeClocks : GoodIn wsX5_carryOneOut (wsV RX5 81 RX4 yX4_changeClocks wsX4_changeClocks) := goodIn_app (goodIn_of _ (by decide +kernel)) ggX5_carryOneOut_X4_changeClocks
theorem dX5_carryOneOut_0 : decode cX5_carryOneOut 0 = .ok (.aload_n 0, 1) := by decide +kernel
theorem dX5_carryOneOut_1 : decode cX5_carryOneOut 1 = .ok (.getfield 34, 3) := by decide +kernel
theorem dX5_carryOneOut_4 : decode cX5_carryOneOut 4 = .ok (.getfield 237, 3) := by decide +kernel
theorem dX5_carryOneOut_7 : decode cX5_carryOneOut 7 = .ok (.astore_n 1, 1) := by decide +kernel
theorem dX5_carryOneOut_8 : decode cX5_carryOneOut 8 = .ok (.aload_n 0, 1) := by decide +kernel
theorem dX5_carryOneOut_9 : decode cX5_carryOneOut 9 = .ok (.getfield 34, 3) := by decide +kernel
theorem dX5_carryOneOut_12 : decode cX5_carryOneOut 12 = .ok (.getfield 240, 3) := by decide +kernel
theorem dX5_carryOneOut_15 : decode cX5_carryOneOut 15 = .ok (.lookupswitch 133 #[(43, 57), (97, 124), (98, 93), (108, 80), (115, 115), (116, 102)], 57) := by decide +kernel
theorem dX5_carryOneOut_72 : decode cX5_carryOneOut 72 = .ok (.aload_n 0, 1) := by decide +kernel
theorem dX5_carryOneOut_73 : decode cX5_carryOneOut 73 = .ok (.getfield 12, 3) := by decide +kernel
theorem dX5_carryOneOut_76 : decode cX5_carryOneOut 76 = .ok (.aload_n 1, 1) := by decide +kernel
theorem dX5_carryOneOut_77 : decode cX5_carryOneOut 77 = .ok (.iconst 0, 1) := by decide +kernel
theorem dX5_carryOneOut_78 : decode cX5_carryOneOut 78 = .ok (.invokevirtual 243, 3) := by decide +kernel
theorem dX5_carryOneOut_81 : decode cX5_carryOneOut 81 = .ok (.aload_n 1, 1) := by decide +kernel
theorem dX5_carryOneOut_82 : decode cX5_carryOneOut 82 = .ok (.iconst 1, 1) := by decide +kernel
theorem dX5_carryOneOut_83 : decode cX5_carryOneOut 83 = .ok (.invokevirtual 243, 3) := by decide +kernel
theorem dX5_carryOneOut_86 : decode cX5_carryOneOut 86 = .ok (.aload_n 1, 1) := by decide +kernel
theorem dX5_carryOneOut_87 : decode cX5_carryOneOut 87 = .ok (.iconst 2, 1) := by decide +kernel
theorem dX5_carryOneOut_88 : decode cX5_carryOneOut 88 = .ok (.invokevirtual 243, 3) := by decide +kernel
theorem dX5_carryOneOut_91 : decode cX5_carryOneOut 91 = .ok (.invokevirtual 61, 3) := by decide +kernel
theorem dX5_carryOneOut_94 : decode cX5_carryOneOut 94 = .ok (.ireturn, 1) := by decide +kernel
theorem dX5_carryOneOut_95 : decode cX5_carryOneOut 95 = .ok (.aload_n 0, 1) := by decide +kernel
theorem dX5_carryOneOut_96 : decode cX5_carryOneOut 96 = .ok (.getfield 12, 3) := by decide +kernel
theorem dX5_carryOneOut_99 : decode cX5_carryOneOut 99 = .ok (.aload_n 1, 1) := by decide +kernel
theorem dX5_carryOneOut_100 : decode cX5_carryOneOut 100 = .ok (.iconst 0, 1) := by decide +kernel
theorem dX5_carryOneOut_101 : decode cX5_carryOneOut 101 = .ok (.invokevirtual 243, 3) := by decide +kernel
theorem dX5_carryOneOut_104 : decode cX5_carryOneOut 104 = .ok (.invokevirtual 65, 3) := by decide +kernel
theorem dX5_carryOneOut_107 : decode cX5_carryOneOut 107 = .ok (.ireturn, 1) := by decide +kernel
theorem dX5_carryOneOut_108 : decode cX5_carryOneOut 108 = .ok (.aload_n 0, 1) := by decide +kernel
theorem dX5_carryOneOut_109 : decode cX5_carryOneOut 109 = .ok (.getfield 12, 3) := by decide +kernel
theorem dX5_carryOneOut_112 : decode cX5_carryOneOut 112 = .ok (.aload_n 1, 1) := by decide +kernel
theorem dX5_carryOneOut_113 : decode cX5_carryOneOut 113 = .ok (.invokevirtual 74, 3) := by decide +kernel
theorem dX5_carryOneOut_116 : decode cX5_carryOneOut 116 = .ok (.ireturn, 1) := by decide +kernel
theorem dX5_carryOneOut_117 : decode cX5_carryOneOut 117 = .ok (.aload_n 0, 1) := by decide +kernel
theorem dX5_carryOneOut_118 : decode cX5_carryOneOut 118 = .ok (.getfield 12, 3) := by decide +kernel
theorem dX5_carryOneOut_121 : decode cX5_carryOneOut 121 = .ok (.aload_n 1, 1) := by decide +kernel
theorem dX5_carryOneOut_122 : decode cX5_carryOneOut 122 = .ok (.iconst 0, 1) := by decide +kernel
theorem dX5_carryOneOut_123 : decode cX5_carryOneOut 123 = .ok (.invokevirtual 243, 3) := by decide +kernel
theorem dX5_carryOneOut_126 : decode cX5_carryOneOut 126 = .ok (.invokevirtual 78, 3) := by decide +kernel
theorem dX5_carryOneOut_129 : decode cX5_carryOneOut 129 = .ok (.ireturn, 1) := by decide +kernel
theorem dX5_carryOneOut_130 : decode cX5_carryOneOut 130 = .ok (.aload_n 0, 1) := by decide +kernel
theorem dX5_carryOneOut_131 : decode cX5_carryOneOut 131 = .ok (.getfield 12, 3) := by decide +kernel
theorem dX5_carryOneOut_134 : decode cX5_carryOneOut 134 = .ok (.iconst 0, 1) := by decide +kernel
theorem dX5_carryOneOut_135 : decode cX5_carryOneOut 135 = .ok (.invokevirtual 81, 3) := by decide +kernel
theorem dX5_carryOneOut_138 : decode cX5_carryOneOut 138 = .ok (.ireturn, 1) := by decide +kernel
theorem dX5_carryOneOut_139 : decode cX5_carryOneOut 139 = .ok (.aload_n 0, 1) := by decide +kernel
theorem dX5_carryOneOut_140 : decode cX5_carryOneOut 140 = .ok (.getfield 12, 3) := by decide +kernel
theorem dX5_carryOneOut_143 : decode cX5_carryOneOut 143 = .ok (.iconst 1, 1) := by decide +kernel
theorem dX5_carryOneOut_144 : decode cX5_carryOneOut 144 = .ok (.invokevirtual 81, 3) := by decide +kernel
theorem dX5_carryOneOut_147 : decode cX5_carryOneOut 147 = .ok (.ireturn, 1) := by decide +kernel
theorem dX5_carryOneOut_148 : decode cX5_carryOneOut 148 = .ok (.bipush (-3), 2) := by decide +kernel
theorem dX5_carryOneOut_150 : decode cX5_carryOneOut 150 = .ok (.ireturn, 1) := by decide +kernel
set_option maxRecDepth 20000 in
theorem ggX5_signsIn_X5_codeAt : GoodIn wsX5_signsIn wsX5_codeAt := goodIn_r _ [4] (by decide +kernel) (by decide +kernel)
set_option maxRecDepth 20000 in
theorem gX5_signsIn_X5_codeAt : GoodIn wsX5_signsIn (va_wsS RX5 196 yX5_codeAt wsX5_codeAt) := goodIn_app (goodIn_of _ (by decide +kernel)) ggX5_signsIn_X5_codeAt
theorem dX5_signsIn_0 : decode cX5_signsIn 0 = .ok (.iconst 0, 1) := by decide +kernel
theorem dX5_signsIn_1 : decode cX5_signsIn 1 = .ok (.istore_n 2, 1) := by decide +kernel
theorem dX5_signsIn_2 : decode cX5_signsIn 2 = .ok (.iload_n 2, 1) := by decide +kernel
theorem dX5_signsIn_3 : decode cX5_signsIn 3 = .ok (.bipush 8, 2) := by decide +kernel
theorem dX5_signsIn_5 : decode cX5_signsIn 5 = .ok (.if_icmp .ge 50, 3) := by decide +kernel
theorem dX5_signsIn_8 : decode cX5_signsIn 8 = .ok (.lload_n 0, 1) := by decide +kernel
theorem dX5_signsIn_9 : decode cX5_signsIn 9 = .ok (.iload_n 2, 1) := by decide +kernel
theorem dX5_signsIn_10 : decode cX5_signsIn 10 = .ok (.invokestatic 196, 3) := by decide +kernel
theorem dX5_signsIn_13 : decode cX5_signsIn 13 = .ok (.istore_n 3, 1) := by decide +kernel
theorem dX5_signsIn_14 : decode cX5_signsIn 14 = .ok (.iload_n 3, 1) := by decide +kernel
theorem dX5_signsIn_15 : decode cX5_signsIn 15 = .ok (.ifCond .ne 20, 3) := by decide +kernel
theorem dX5_signsIn_18 : decode cX5_signsIn 18 = .ok (.lload_n 0, 1) := by decide +kernel
theorem dX5_signsIn_19 : decode cX5_signsIn 19 = .ok (.iload_n 2, 1) := by decide +kernel
theorem dX5_signsIn_20 : decode cX5_signsIn 20 = .ok (.bipush 8, 2) := by decide +kernel
theorem dX5_signsIn_22 : decode cX5_signsIn 22 = .ok (.imul, 1) := by decide +kernel
theorem dX5_signsIn_23 : decode cX5_signsIn 23 = .ok (.lushr, 1) := by decide +kernel
theorem dX5_signsIn_24 : decode cX5_signsIn 24 = .ok (.lconst 0, 1) := by decide +kernel
theorem dX5_signsIn_25 : decode cX5_signsIn 25 = .ok (.lcmp, 1) := by decide +kernel
theorem dX5_signsIn_26 : decode cX5_signsIn 26 = .ok (.ifCond .ne 7, 3) := by decide +kernel
theorem dX5_signsIn_29 : decode cX5_signsIn 29 = .ok (.iload_n 2, 1) := by decide +kernel
theorem dX5_signsIn_30 : decode cX5_signsIn 30 = .ok (.goto 4, 3) := by decide +kernel
theorem dX5_signsIn_33 : decode cX5_signsIn 33 = .ok (.iconst 0, 1) := by decide +kernel
theorem dX5_signsIn_34 : decode cX5_signsIn 34 = .ok (.ireturn, 1) := by decide +kernel
theorem dX5_signsIn_35 : decode cX5_signsIn 35 = .ok (.iload_n 3, 1) := by decide +kernel
theorem dX5_signsIn_36 : decode cX5_signsIn 36 = .ok (.bipush 33, 2) := by decide +kernel
theorem dX5_signsIn_38 : decode cX5_signsIn 38 = .ok (.if_icmp .lt 9, 3) := by decide +kernel
theorem dX5_signsIn_41 : decode cX5_signsIn 41 = .ok (.iload_n 3, 1) := by decide +kernel
theorem dX5_signsIn_42 : decode cX5_signsIn 42 = .ok (.bipush 126, 2) := by decide +kernel
theorem dX5_signsIn_44 : decode cX5_signsIn 44 = .ok (.if_icmp .le 5, 3) := by decide +kernel
theorem dX5_signsIn_47 : decode cX5_signsIn 47 = .ok (.iconst 0, 1) := by decide +kernel
theorem dX5_signsIn_48 : decode cX5_signsIn 48 = .ok (.ireturn, 1) := by decide +kernel
theorem dX5_signsIn_49 : decode cX5_signsIn 49 = .ok (.iinc 2 1, 3) := by decide +kernel
theorem dX5_signsIn_52 : decode cX5_signsIn 52 = .ok (.goto (-50), 3) := by decide +kernel
theorem dX5_signsIn_55 : decode cX5_signsIn 55 = .ok (.bipush 8, 2) := by decide +kernel
theorem dX5_signsIn_57 : decode cX5_signsIn 57 = .ok (.ireturn, 1) := by decide +kernel
theorem dX5_codeAt_0 : decode cX5_codeAt 0 = .ok (.lload_n 0, 1) := by decide +kernel
theorem dX5_codeAt_1 : decode cX5_codeAt 1 = .ok (.iload_n 2, 1) := by decide +kernel
theorem dX5_codeAt_2 : decode cX5_codeAt 2 = .ok (.bipush 8, 2) := by decide +kernel
theorem dX5_codeAt_4 : decode cX5_codeAt 4 = .ok (.imul, 1) := by decide +kernel
theorem dX5_codeAt_5 : decode cX5_codeAt 5 = .ok (.lushr, 1) := by decide +kernel
theorem dX5_codeAt_6 : decode cX5_codeAt 6 = .ok (.l2i, 1) := by decide +kernel
theorem dX5_codeAt_7 : decode cX5_codeAt 7 = .ok (.sipush 255, 3) := by decide +kernel
theorem dX5_codeAt_10 : decode cX5_codeAt 10 = .ok (.iand, 1) := by decide +kernel
theorem dX5_codeAt_11 : decode cX5_codeAt 11 = .ok (.ireturn, 1) := by decide +kernel
theorem dX5_isWithin_0 : decode cX5_isWithin 0 = .ok (.iload_n 0, 1) := by decide +kernel
theorem dX5_isWithin_1 : decode cX5_isWithin 1 = .ok (.iload_n 1, 1) := by decide +kernel
theorem dX5_isWithin_2 : decode cX5_isWithin 2 = .ok (.if_icmp .lt 12, 3) := by decide +kernel
theorem dX5_isWithin_5 : decode cX5_isWithin 5 = .ok (.iload_n 0, 1) := by decide +kernel
theorem dX5_isWithin_6 : decode cX5_isWithin 6 = .ok (.iload_n 2, 1) := by decide +kernel
theorem dX5_isWithin_7 : decode cX5_isWithin 7 = .ok (.if_icmp .gt 7, 3) := by decide +kernel
theorem dX5_isWithin_10 : decode cX5_isWithin 10 = .ok (.iconst 1, 1) := by decide +kernel
theorem dX5_isWithin_11 : decode cX5_isWithin 11 = .ok (.goto 4, 3) := by decide +kernel
theorem dX5_isWithin_14 : decode cX5_isWithin 14 = .ok (.iconst 0, 1) := by decide +kernel
theorem dX5_isWithin_15 : decode cX5_isWithin 15 = .ok (.ireturn, 1) := by decide +kernel
