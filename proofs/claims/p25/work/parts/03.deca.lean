theorem dX0_init_0 : decode cX0_init 0 = .ok (.aload_n 0, 1) := by decide +kernel
theorem dX0_init_1 : decode cX0_init 1 = .ok (.invokespecial 3, 3) := by decide +kernel
theorem dX0_init_4 : decode cX0_init 4 = .ok (.return_, 1) := by decide +kernel
theorem dX0_copyFrom_0 : decode cX0_copyFrom 0 = .ok (.aload_n 0, 1) := by decide +kernel
theorem dX0_copyFrom_1 : decode cX0_copyFrom 1 = .ok (.aload_n 1, 1) := by decide +kernel
theorem dX0_copyFrom_2 : decode cX0_copyFrom 2 = .ok (.getfield 9, 3) := by decide +kernel
theorem dX0_copyFrom_5 : decode cX0_copyFrom 5 = .ok (.putfield 9, 3) := by decide +kernel
theorem dX0_copyFrom_8 : decode cX0_copyFrom 8 = .ok (.aload_n 0, 1) := by decide +kernel
theorem dX0_copyFrom_9 : decode cX0_copyFrom 9 = .ok (.aload_n 1, 1) := by decide +kernel
theorem dX0_copyFrom_10 : decode cX0_copyFrom 10 = .ok (.getfield 15, 3) := by decide +kernel
theorem dX0_copyFrom_13 : decode cX0_copyFrom 13 = .ok (.putfield 15, 3) := by decide +kernel
theorem dX0_copyFrom_16 : decode cX0_copyFrom 16 = .ok (.aload_n 0, 1) := by decide +kernel
theorem dX0_copyFrom_17 : decode cX0_copyFrom 17 = .ok (.aload_n 1, 1) := by decide +kernel
theorem dX0_copyFrom_18 : decode cX0_copyFrom 18 = .ok (.getfield 18, 3) := by decide +kernel
theorem dX0_copyFrom_21 : decode cX0_copyFrom 21 = .ok (.putfield 18, 3) := by decide +kernel
theorem dX0_copyFrom_24 : decode cX0_copyFrom 24 = .ok (.aload_n 0, 1) := by decide +kernel
theorem dX0_copyFrom_25 : decode cX0_copyFrom 25 = .ok (.aload_n 1, 1) := by decide +kernel
theorem dX0_copyFrom_26 : decode cX0_copyFrom 26 = .ok (.getfield 21, 3) := by decide +kernel
theorem dX0_copyFrom_29 : decode cX0_copyFrom 29 = .ok (.putfield 21, 3) := by decide +kernel
theorem dX0_copyFrom_32 : decode cX0_copyFrom 32 = .ok (.aload_n 0, 1) := by decide +kernel
theorem dX0_copyFrom_33 : decode cX0_copyFrom 33 = .ok (.aload_n 1, 1) := by decide +kernel
theorem dX0_copyFrom_34 : decode cX0_copyFrom 34 = .ok (.getfield 24, 3) := by decide +kernel
theorem dX0_copyFrom_37 : decode cX0_copyFrom 37 = .ok (.putfield 24, 3) := by decide +kernel
theorem dX0_copyFrom_40 : decode cX0_copyFrom 40 = .ok (.aload_n 0, 1) := by decide +kernel
theorem dX0_copyFrom_41 : decode cX0_copyFrom 41 = .ok (.aload_n 1, 1) := by decide +kernel
theorem dX0_copyFrom_42 : decode cX0_copyFrom 42 = .ok (.getfield 27, 3) := by decide +kernel
theorem dX0_copyFrom_45 : decode cX0_copyFrom 45 = .ok (.putfield 27, 3) := by decide +kernel
theorem dX0_copyFrom_48 : decode cX0_copyFrom 48 = .ok (.aload_n 0, 1) := by decide +kernel
theorem dX0_copyFrom_49 : decode cX0_copyFrom 49 = .ok (.aload_n 1, 1) := by decide +kernel
theorem dX0_copyFrom_50 : decode cX0_copyFrom 50 = .ok (.getfield 30, 3) := by decide +kernel
theorem dX0_copyFrom_53 : decode cX0_copyFrom 53 = .ok (.putfield 30, 3) := by decide +kernel
theorem dX0_copyFrom_56 : decode cX0_copyFrom 56 = .ok (.aload_n 0, 1) := by decide +kernel
theorem dX0_copyFrom_57 : decode cX0_copyFrom 57 = .ok (.aload_n 1, 1) := by decide +kernel
theorem dX0_copyFrom_58 : decode cX0_copyFrom 58 = .ok (.getfield 33, 3) := by decide +kernel
theorem dX0_copyFrom_61 : decode cX0_copyFrom 61 = .ok (.putfield 33, 3) := by decide +kernel
theorem dX0_copyFrom_64 : decode cX0_copyFrom 64 = .ok (.return_, 1) := by decide +kernel
theorem dX0_begin_0 : decode cX0_begin 0 = .ok (.aload_n 0, 1) := by decide +kernel
theorem dX0_begin_1 : decode cX0_begin 1 = .ok (.iload_n 1, 1) := by decide +kernel
theorem dX0_begin_2 : decode cX0_begin 2 = .ok (.putfield 9, 3) := by decide +kernel
theorem dX0_begin_5 : decode cX0_begin 5 = .ok (.aload_n 0, 1) := by decide +kernel
theorem dX0_begin_6 : decode cX0_begin 6 = .ok (.iload_n 2, 1) := by decide +kernel
theorem dX0_begin_7 : decode cX0_begin 7 = .ok (.putfield 15, 3) := by decide +kernel
theorem dX0_begin_10 : decode cX0_begin 10 = .ok (.aload_n 0, 1) := by decide +kernel
theorem dX0_begin_11 : decode cX0_begin 11 = .ok (.iload_n 3, 1) := by decide +kernel
theorem dX0_begin_12 : decode cX0_begin 12 = .ok (.putfield 18, 3) := by decide +kernel
theorem dX0_begin_15 : decode cX0_begin 15 = .ok (.aload_n 0, 1) := by decide +kernel
theorem dX0_begin_16 : decode cX0_begin 16 = .ok (.iconst 0, 1) := by decide +kernel
theorem dX0_begin_17 : decode cX0_begin 17 = .ok (.putfield 21, 3) := by decide +kernel
theorem dX0_begin_20 : decode cX0_begin 20 = .ok (.aload_n 0, 1) := by decide +kernel
theorem dX0_begin_21 : decode cX0_begin 21 = .ok (.iconst 0, 1) := by decide +kernel
theorem dX0_begin_22 : decode cX0_begin 22 = .ok (.putfield 24, 3) := by decide +kernel
theorem dX0_begin_25 : decode cX0_begin 25 = .ok (.aload_n 0, 1) := by decide +kernel
theorem dX0_begin_26 : decode cX0_begin 26 = .ok (.iconst 0, 1) := by decide +kernel
theorem dX0_begin_27 : decode cX0_begin 27 = .ok (.putfield 27, 3) := by decide +kernel
theorem dX0_begin_30 : decode cX0_begin 30 = .ok (.aload_n 0, 1) := by decide +kernel
theorem dX0_begin_31 : decode cX0_begin 31 = .ok (.iconst 0, 1) := by decide +kernel
theorem dX0_begin_32 : decode cX0_begin 32 = .ok (.putfield 30, 3) := by decide +kernel
theorem dX0_begin_35 : decode cX0_begin 35 = .ok (.aload_n 0, 1) := by decide +kernel
theorem dX0_begin_36 : decode cX0_begin 36 = .ok (.iconst 1, 1) := by decide +kernel
theorem dX0_begin_37 : decode cX0_begin 37 = .ok (.putfield 33, 3) := by decide +kernel
theorem dX0_begin_40 : decode cX0_begin 40 = .ok (.return_, 1) := by decide +kernel
theorem dX0_driftWithScrew_0 : decode cX0_driftWithScrew 0 = .ok (.aload_n 0, 1) := by decide +kernel
theorem dX0_driftWithScrew_1 : decode cX0_driftWithScrew 1 = .ok (.getfield 18, 3) := by decide +kernel
theorem dX0_driftWithScrew_4 : decode cX0_driftWithScrew 4 = .ok (.iconst 3, 1) := by decide +kernel
theorem dX0_driftWithScrew_5 : decode cX0_driftWithScrew 5 = .ok (.aload_n 0, 1) := by decide +kernel
theorem dX0_driftWithScrew_6 : decode cX0_driftWithScrew 6 = .ok (.getfield 21, 3) := by decide +kernel
theorem dX0_driftWithScrew_9 : decode cX0_driftWithScrew 9 = .ok (.imul, 1) := by decide +kernel
theorem dX0_driftWithScrew_10 : decode cX0_driftWithScrew 10 = .ok (.iadd, 1) := by decide +kernel
theorem dX0_driftWithScrew_11 : decode cX0_driftWithScrew 11 = .ok (.ireturn, 1) := by decide +kernel
theorem dX0_isOffBeyond_0 : decode cX0_isOffBeyond 0 = .ok (.aload_n 0, 1) := by decide +kernel
theorem dX0_isOffBeyond_1 : decode cX0_isOffBeyond 1 = .ok (.getfield 24, 3) := by decide +kernel
theorem dX0_isOffBeyond_4 : decode cX0_isOffBeyond 4 = .ok (.invokestatic 37, 3) := by decide +kernel
theorem dX0_isOffBeyond_7 : decode cX0_isOffBeyond 7 = .ok (.iload_n 1, 1) := by decide +kernel
theorem dX0_isOffBeyond_8 : decode cX0_isOffBeyond 8 = .ok (.if_icmp .le 7, 3) := by decide +kernel
theorem dX0_isOffBeyond_11 : decode cX0_isOffBeyond 11 = .ok (.iconst 1, 1) := by decide +kernel
theorem dX0_isOffBeyond_12 : decode cX0_isOffBeyond 12 = .ok (.goto 4, 3) := by decide +kernel
theorem dX0_isOffBeyond_15 : decode cX0_isOffBeyond 15 = .ok (.iconst 0, 1) := by decide +kernel
theorem dX0_isOffBeyond_16 : decode cX0_isOffBeyond 16 = .ok (.ireturn, 1) := by decide +kernel
set_option maxRecDepth 20000 in
theorem ggX0_passDay_X0_driftWithScrew : GoodIn wsX0_passDay wsX0_driftWithScrew := goodIn_r _ [9, 10, 11, 12, 13, 14, 15, 16, 17, 18, 19] (by decide +kernel) (by decide +kernel)
set_option maxRecDepth 20000 in
theorem gX0_passDay_X0_driftWithScrew : GoodIn wsX0_passDay (wsV RX0 43 RX0 yX0_driftWithScrew wsX0_driftWithScrew) := goodIn_app (goodIn_of _ (by decide +kernel)) ggX0_passDay_X0_driftWithScrew
theorem dX0_passDay_0 : decode cX0_passDay 0 = .ok (.aload_n 0, 1) := by decide +kernel
theorem dX0_passDay_1 : decode cX0_passDay 1 = .ok (.getfield 33, 3) := by decide +kernel
theorem dX0_passDay_4 : decode cX0_passDay 4 = .ok (.ifCond .eq 16, 3) := by decide +kernel
theorem dX0_passDay_7 : decode cX0_passDay 7 = .ok (.aload_n 0, 1) := by decide +kernel
theorem dX0_passDay_8 : decode cX0_passDay 8 = .ok (.dup, 1) := by decide +kernel
theorem dX0_passDay_9 : decode cX0_passDay 9 = .ok (.getfield 24, 3) := by decide +kernel
theorem dX0_passDay_12 : decode cX0_passDay 12 = .ok (.aload_n 0, 1) := by decide +kernel
theorem dX0_passDay_13 : decode cX0_passDay 13 = .ok (.invokevirtual 43, 3) := by decide +kernel
theorem dX0_passDay_16 : decode cX0_passDay 16 = .ok (.iadd, 1) := by decide +kernel
theorem dX0_passDay_17 : decode cX0_passDay 17 = .ok (.putfield 24, 3) := by decide +kernel
theorem dX0_passDay_20 : decode cX0_passDay 20 = .ok (.aload_n 0, 1) := by decide +kernel
theorem dX0_passDay_21 : decode cX0_passDay 21 = .ok (.dup, 1) := by decide +kernel
theorem dX0_passDay_22 : decode cX0_passDay 22 = .ok (.getfield 27, 3) := by decide +kernel
theorem dX0_passDay_25 : decode cX0_passDay 25 = .ok (.iconst 1, 1) := by decide +kernel
theorem dX0_passDay_26 : decode cX0_passDay 26 = .ok (.iadd, 1) := by decide +kernel
theorem dX0_passDay_27 : decode cX0_passDay 27 = .ok (.putfield 27, 3) := by decide +kernel
theorem dX0_passDay_30 : decode cX0_passDay 30 = .ok (.aload_n 0, 1) := by decide +kernel
theorem dX0_passDay_31 : decode cX0_passDay 31 = .ok (.getfield 27, 3) := by decide +kernel
theorem dX0_passDay_34 : decode cX0_passDay 34 = .ok (.iload_n 1, 1) := by decide +kernel
theorem dX0_passDay_35 : decode cX0_passDay 35 = .ok (.if_icmp .le 14, 3) := by decide +kernel
theorem dX0_passDay_38 : decode cX0_passDay 38 = .ok (.aload_n 0, 1) := by decide +kernel
theorem dX0_passDay_39 : decode cX0_passDay 39 = .ok (.iconst 0, 1) := by decide +kernel
theorem dX0_passDay_40 : decode cX0_passDay 40 = .ok (.putfield 33, 3) := by decide +kernel
theorem dX0_passDay_43 : decode cX0_passDay 43 = .ok (.aload_n 0, 1) := by decide +kernel
theorem dX0_passDay_44 : decode cX0_passDay 44 = .ok (.ldc 47, 2) := by decide +kernel
theorem dX0_passDay_46 : decode cX0_passDay 46 = .ok (.putfield 24, 3) := by decide +kernel
theorem dX0_passDay_49 : decode cX0_passDay 49 = .ok (.return_, 1) := by decide +kernel
set_option maxRecDepth 20000 in
theorem ggX0_windAndSet_X0_isOffBeyond : GoodIn wsX0_windAndSet wsX0_isOffBeyond := goodIn_r _ [9, 2, 10, 11, 12, 13, 24, 25, 26, 27, 28, 29, 30, 31] (by decide +kernel) (by decide +kernel)
set_option maxRecDepth 20000 in
theorem gX0_windAndSet_X0_isOffBeyond : GoodIn wsX0_windAndSet (wsV RX0 48 RX0 yX0_isOffBeyond wsX0_isOffBeyond) := goodIn_app (goodIn_of _ (by decide +kernel)) ggX0_windAndSet_X0_isOffBeyond
set_option maxRecDepth 20000 in
theorem ggX0_windAndSet_X0_turnByRule : GoodIn wsX0_windAndSet wsX0_turnByRule := goodIn_r _ [17, 18, 19, 20, 21, 8, 22, 23, 24, 25, 26, 27, 28, 29, 30, 31] (by decide +kernel) (by decide +kernel)
set_option maxRecDepth 20000 in
theorem gX0_windAndSet_X0_turnByRule : GoodIn wsX0_windAndSet (wsV RX0 52 RX0 yX0_turnByRule wsX0_turnByRule) := goodIn_app (goodIn_of _ (by decide +kernel)) ggX0_windAndSet_X0_turnByRule
theorem dX0_windAndSet_0 : decode cX0_windAndSet 0 = .ok (.aload_n 0, 1) := by decide +kernel
theorem dX0_windAndSet_1 : decode cX0_windAndSet 1 = .ok (.getfield 33, 3) := by decide +kernel
theorem dX0_windAndSet_4 : decode cX0_windAndSet 4 = .ok (.ifCond .eq 17, 3) := by decide +kernel
theorem dX0_windAndSet_7 : decode cX0_windAndSet 7 = .ok (.aload_n 0, 1) := by decide +kernel
theorem dX0_windAndSet_8 : decode cX0_windAndSet 8 = .ok (.iload_n 1, 1) := by decide +kernel
theorem dX0_windAndSet_9 : decode cX0_windAndSet 9 = .ok (.iconst 2, 1) := by decide +kernel
theorem dX0_windAndSet_10 : decode cX0_windAndSet 10 = .ok (.idiv, 1) := by decide +kernel
theorem dX0_windAndSet_11 : decode cX0_windAndSet 11 = .ok (.invokevirtual 48, 3) := by decide +kernel
theorem dX0_windAndSet_14 : decode cX0_windAndSet 14 = .ok (.ifCond .eq 7, 3) := by decide +kernel
theorem dX0_windAndSet_17 : decode cX0_windAndSet 17 = .ok (.aload_n 0, 1) := by decide +kernel
theorem dX0_windAndSet_18 : decode cX0_windAndSet 18 = .ok (.invokevirtual 52, 3) := by decide +kernel
theorem dX0_windAndSet_21 : decode cX0_windAndSet 21 = .ok (.aload_n 0, 1) := by decide +kernel
theorem dX0_windAndSet_22 : decode cX0_windAndSet 22 = .ok (.iconst 1, 1) := by decide +kernel
theorem dX0_windAndSet_23 : decode cX0_windAndSet 23 = .ok (.putfield 33, 3) := by decide +kernel
theorem dX0_windAndSet_26 : decode cX0_windAndSet 26 = .ok (.aload_n 0, 1) := by decide +kernel
theorem dX0_windAndSet_27 : decode cX0_windAndSet 27 = .ok (.iconst 0, 1) := by decide +kernel
theorem dX0_windAndSet_28 : decode cX0_windAndSet 28 = .ok (.putfield 24, 3) := by decide +kernel
theorem dX0_windAndSet_31 : decode cX0_windAndSet 31 = .ok (.aload_n 0, 1) := by decide +kernel
theorem dX0_windAndSet_32 : decode cX0_windAndSet 32 = .ok (.iconst 0, 1) := by decide +kernel
theorem dX0_windAndSet_33 : decode cX0_windAndSet 33 = .ok (.putfield 27, 3) := by decide +kernel
theorem dX0_windAndSet_36 : decode cX0_windAndSet 36 = .ok (.aload_n 0, 1) := by decide +kernel
theorem dX0_windAndSet_37 : decode cX0_windAndSet 37 = .ok (.dup, 1) := by decide +kernel
theorem dX0_windAndSet_38 : decode cX0_windAndSet 38 = .ok (.getfield 30, 3) := by decide +kernel
theorem dX0_windAndSet_41 : decode cX0_windAndSet 41 = .ok (.iconst 1, 1) := by decide +kernel
theorem dX0_windAndSet_42 : decode cX0_windAndSet 42 = .ok (.iadd, 1) := by decide +kernel
theorem dX0_windAndSet_43 : decode cX0_windAndSet 43 = .ok (.putfield 30, 3) := by decide +kernel
theorem dX0_windAndSet_46 : decode cX0_windAndSet 46 = .ok (.return_, 1) := by decide +kernel
set_option maxRecDepth 20000 in
theorem ggX0_turnByRule_X0_driftWithScrew : GoodIn wsX0_turnByRule wsX0_driftWithScrew := goodIn_r _ [6, 7, 1, 8, 9, 10, 11, 12, 13, 14, 15] (by decide +kernel) (by decide +kernel)
set_option maxRecDepth 20000 in
theorem gX0_turnByRule_X0_driftWithScrew : GoodIn wsX0_turnByRule (wsV RX0 43 RX0 yX0_driftWithScrew wsX0_driftWithScrew) := goodIn_app (goodIn_of _ (by decide +kernel)) ggX0_turnByRule_X0_driftWithScrew
theorem dX0_turnByRule_0 : decode cX0_turnByRule 0 = .ok (.aload_n 0, 1) := by decide +kernel
theorem dX0_turnByRule_1 : decode cX0_turnByRule 1 = .ok (.invokevirtual 43, 3) := by decide +kernel
theorem dX0_turnByRule_4 : decode cX0_turnByRule 4 = .ok (.istore_n 1, 1) := by decide +kernel
theorem dX0_turnByRule_5 : decode cX0_turnByRule 5 = .ok (.iload_n 1, 1) := by decide +kernel
theorem dX0_turnByRule_6 : decode cX0_turnByRule 6 = .ok (.ifCond .le 25, 3) := by decide +kernel
theorem dX0_turnByRule_9 : decode cX0_turnByRule 9 = .ok (.aload_n 0, 1) := by decide +kernel
theorem dX0_turnByRule_10 : decode cX0_turnByRule 10 = .ok (.getfield 21, 3) := by decide +kernel
theorem dX0_turnByRule_13 : decode cX0_turnByRule 13 = .ok (.bipush (-20), 2) := by decide +kernel
theorem dX0_turnByRule_15 : decode cX0_turnByRule 15 = .ok (.if_icmp .le 16, 3) := by decide +kernel
theorem dX0_turnByRule_18 : decode cX0_turnByRule 18 = .ok (.aload_n 0, 1) := by decide +kernel
theorem dX0_turnByRule_19 : decode cX0_turnByRule 19 = .ok (.dup, 1) := by decide +kernel
theorem dX0_turnByRule_20 : decode cX0_turnByRule 20 = .ok (.getfield 21, 3) := by decide +kernel
theorem dX0_turnByRule_23 : decode cX0_turnByRule 23 = .ok (.iconst 1, 1) := by decide +kernel
theorem dX0_turnByRule_24 : decode cX0_turnByRule 24 = .ok (.isub, 1) := by decide +kernel
theorem dX0_turnByRule_25 : decode cX0_turnByRule 25 = .ok (.putfield 21, 3) := by decide +kernel
theorem dX0_turnByRule_28 : decode cX0_turnByRule 28 = .ok (.goto 26, 3) := by decide +kernel
theorem dX0_turnByRule_31 : decode cX0_turnByRule 31 = .ok (.iload_n 1, 1) := by decide +kernel
theorem dX0_turnByRule_32 : decode cX0_turnByRule 32 = .ok (.ifCond .ge 22, 3) := by decide +kernel
theorem dX0_turnByRule_35 : decode cX0_turnByRule 35 = .ok (.aload_n 0, 1) := by decide +kernel
theorem dX0_turnByRule_36 : decode cX0_turnByRule 36 = .ok (.getfield 21, 3) := by decide +kernel
theorem dX0_turnByRule_39 : decode cX0_turnByRule 39 = .ok (.bipush 20, 2) := by decide +kernel
theorem dX0_turnByRule_41 : decode cX0_turnByRule 41 = .ok (.if_icmp .ge 13, 3) := by decide +kernel
theorem dX0_turnByRule_44 : decode cX0_turnByRule 44 = .ok (.aload_n 0, 1) := by decide +kernel
theorem dX0_turnByRule_45 : decode cX0_turnByRule 45 = .ok (.dup, 1) := by decide +kernel
theorem dX0_turnByRule_46 : decode cX0_turnByRule 46 = .ok (.getfield 21, 3) := by decide +kernel
theorem dX0_turnByRule_49 : decode cX0_turnByRule 49 = .ok (.iconst 1, 1) := by decide +kernel
theorem dX0_turnByRule_50 : decode cX0_turnByRule 50 = .ok (.iadd, 1) := by decide +kernel
theorem dX0_turnByRule_51 : decode cX0_turnByRule 51 = .ok (.putfield 21, 3) := by decide +kernel
theorem dX0_turnByRule_54 : decode cX0_turnByRule 54 = .ok (.return_, 1) := by decide +kernel
set_option maxRecDepth 20000 in
theorem ggX0_daysUntilOff_X0_isOffBeyond : GoodIn wsX0_daysUntilOff wsX0_isOffBeyond := goodIn_r _ [14, 6, 7, 8, 4, 9, 21, 22, 23, 24, 25, 26, 27, 28] (by decide +kernel) (by decide +kernel)
set_option maxRecDepth 20000 in
theorem gX0_daysUntilOff_X0_isOffBeyond : GoodIn wsX0_daysUntilOff (wsV RX0 48 RX0 yX0_isOffBeyond wsX0_isOffBeyond) := goodIn_app (goodIn_of _ (by decide +kernel)) ggX0_daysUntilOff_X0_isOffBeyond
set_option maxRecDepth 20000 in
theorem ggX0_daysUntilOff_X0_driftWithScrew : GoodIn wsX0_daysUntilOff wsX0_driftWithScrew := goodIn_r _ [18, 19, 20, 21, 22, 23, 24, 25, 26, 27, 28] (by decide +kernel) (by decide +kernel)
set_option maxRecDepth 20000 in
theorem gX0_daysUntilOff_X0_driftWithScrew : GoodIn wsX0_daysUntilOff (wsV RX0 43 RX0 yX0_driftWithScrew wsX0_driftWithScrew) := goodIn_app (goodIn_of _ (by decide +kernel)) ggX0_daysUntilOff_X0_driftWithScrew
theorem dX0_daysUntilOff_0 : decode cX0_daysUntilOff 0 = .ok (.aload_n 0, 1) := by decide +kernel
theorem dX0_daysUntilOff_1 : decode cX0_daysUntilOff 1 = .ok (.iload_n 1, 1) := by decide +kernel
theorem dX0_daysUntilOff_2 : decode cX0_daysUntilOff 2 = .ok (.invokevirtual 48, 3) := by decide +kernel
theorem dX0_daysUntilOff_5 : decode cX0_daysUntilOff 5 = .ok (.ifCond .eq 5, 3) := by decide +kernel
theorem dX0_daysUntilOff_8 : decode cX0_daysUntilOff 8 = .ok (.iconst 0, 1) := by decide +kernel
theorem dX0_daysUntilOff_9 : decode cX0_daysUntilOff 9 = .ok (.ireturn, 1) := by decide +kernel
theorem dX0_daysUntilOff_10 : decode cX0_daysUntilOff 10 = .ok (.iconst 1, 1) := by decide +kernel
theorem dX0_daysUntilOff_11 : decode cX0_daysUntilOff 11 = .ok (.iload_n 2, 1) := by decide +kernel
theorem dX0_daysUntilOff_12 : decode cX0_daysUntilOff 12 = .ok (.iconst 1, 1) := by decide +kernel
theorem dX0_daysUntilOff_13 : decode cX0_daysUntilOff 13 = .ok (.iadd, 1) := by decide +kernel
theorem dX0_daysUntilOff_14 : decode cX0_daysUntilOff 14 = .ok (.aload_n 0, 1) := by decide +kernel
theorem dX0_daysUntilOff_15 : decode cX0_daysUntilOff 15 = .ok (.getfield 27, 3) := by decide +kernel
theorem dX0_daysUntilOff_18 : decode cX0_daysUntilOff 18 = .ok (.isub, 1) := by decide +kernel
theorem dX0_daysUntilOff_19 : decode cX0_daysUntilOff 19 = .ok (.invokestatic 55, 3) := by decide +kernel
theorem dX0_daysUntilOff_22 : decode cX0_daysUntilOff 22 = .ok (.istore_n 3, 1) := by decide +kernel
theorem dX0_daysUntilOff_23 : decode cX0_daysUntilOff 23 = .ok (.iconst 1, 1) := by decide +kernel
theorem dX0_daysUntilOff_24 : decode cX0_daysUntilOff 24 = .ok (.istore 4, 2) := by decide +kernel
theorem dX0_daysUntilOff_26 : decode cX0_daysUntilOff 26 = .ok (.iload 4, 2) := by decide +kernel
theorem dX0_daysUntilOff_28 : decode cX0_daysUntilOff 28 = .ok (.iload_n 3, 1) := by decide +kernel
theorem dX0_daysUntilOff_29 : decode cX0_daysUntilOff 29 = .ok (.if_icmp .ge 31, 3) := by decide +kernel
theorem dX0_daysUntilOff_32 : decode cX0_daysUntilOff 32 = .ok (.aload_n 0, 1) := by decide +kernel
theorem dX0_daysUntilOff_33 : decode cX0_daysUntilOff 33 = .ok (.getfield 24, 3) := by decide +kernel
theorem dX0_daysUntilOff_36 : decode cX0_daysUntilOff 36 = .ok (.iload 4, 2) := by decide +kernel
theorem dX0_daysUntilOff_38 : decode cX0_daysUntilOff 38 = .ok (.aload_n 0, 1) := by decide +kernel
theorem dX0_daysUntilOff_39 : decode cX0_daysUntilOff 39 = .ok (.invokevirtual 43, 3) := by decide +kernel
theorem dX0_daysUntilOff_42 : decode cX0_daysUntilOff 42 = .ok (.imul, 1) := by decide +kernel
theorem dX0_daysUntilOff_43 : decode cX0_daysUntilOff 43 = .ok (.iadd, 1) := by decide +kernel
theorem dX0_daysUntilOff_44 : decode cX0_daysUntilOff 44 = .ok (.invokestatic 37, 3) := by decide +kernel
theorem dX0_daysUntilOff_47 : decode cX0_daysUntilOff 47 = .ok (.iload_n 1, 1) := by decide +kernel
theorem dX0_daysUntilOff_48 : decode cX0_daysUntilOff 48 = .ok (.if_icmp .le 6, 3) := by decide +kernel
theorem dX0_daysUntilOff_51 : decode cX0_daysUntilOff 51 = .ok (.iload 4, 2) := by decide +kernel
theorem dX0_daysUntilOff_53 : decode cX0_daysUntilOff 53 = .ok (.ireturn, 1) := by decide +kernel
theorem dX0_daysUntilOff_54 : decode cX0_daysUntilOff 54 = .ok (.iinc 4 1, 3) := by decide +kernel
theorem dX0_daysUntilOff_57 : decode cX0_daysUntilOff 57 = .ok (.goto (-31), 3) := by decide +kernel
theorem dX0_daysUntilOff_60 : decode cX0_daysUntilOff 60 = .ok (.iload_n 3, 1) := by decide +kernel
theorem dX0_daysUntilOff_61 : decode cX0_daysUntilOff 61 = .ok (.ireturn, 1) := by decide +kernel
set_option maxRecDepth 20000 in
theorem ggX1_init_X4_init : GoodIn wsX1_init wsX4_init := goodIn_r _ [10, 11, 2, 3, 12, 13, 14, 15, 16, 17, 18, 19, 20, 21, 22, 23, 24, 25, 28, 29, 30, 31, 32, 33, 34, 35, 36, 37, 38, 39, 40, 41, 42] (by decide +kernel) (by decide +kernel)
set_option maxRecDepth 20000 in
theorem gX1_init_X4_init : GoodIn wsX1_init (wsX4_init) := ggX1_init_X4_init
theorem dX1_init_0 : decode cX1_init 0 = .ok (.aload_n 0, 1) := by decide +kernel
theorem dX1_init_1 : decode cX1_init 1 = .ok (.invokespecial 3, 3) := by decide +kernel
theorem dX1_init_4 : decode cX1_init 4 = .ok (.aload_n 0, 1) := by decide +kernel
theorem dX1_init_5 : decode cX1_init 5 = .ok (.bipush 7, 2) := by decide +kernel
theorem dX1_init_7 : decode cX1_init 7 = .ok (.anewarray 9, 3) := by decide +kernel
theorem dX1_init_10 : decode cX1_init 10 = .ok (.putfield 11, 3) := by decide +kernel
theorem dX1_init_13 : decode cX1_init 13 = .ok (.iconst 0, 1) := by decide +kernel
theorem dX1_init_14 : decode cX1_init 14 = .ok (.istore_n 1, 1) := by decide +kernel
theorem dX1_init_15 : decode cX1_init 15 = .ok (.iload_n 1, 1) := by decide +kernel
theorem dX1_init_16 : decode cX1_init 16 = .ok (.bipush 6, 2) := by decide +kernel
theorem dX1_init_18 : decode cX1_init 18 = .ok (.if_icmp .gt 22, 3) := by decide +kernel
theorem dX1_init_21 : decode cX1_init 21 = .ok (.aload_n 0, 1) := by decide +kernel
theorem dX1_init_22 : decode cX1_init 22 = .ok (.getfield 11, 3) := by decide +kernel
theorem dX1_init_25 : decode cX1_init 25 = .ok (.iload_n 1, 1) := by decide +kernel
theorem dX1_init_26 : decode cX1_init 26 = .ok (.new 9, 3) := by decide +kernel
theorem dX1_init_29 : decode cX1_init 29 = .ok (.dup, 1) := by decide +kernel
theorem dX1_init_30 : decode cX1_init 30 = .ok (.invokespecial 17, 3) := by decide +kernel
theorem dX1_init_33 : decode cX1_init 33 = .ok (.aastore, 1) := by decide +kernel
theorem dX1_init_34 : decode cX1_init 34 = .ok (.iinc 1 1, 3) := by decide +kernel
theorem dX1_init_37 : decode cX1_init 37 = .ok (.goto (-22), 3) := by decide +kernel
theorem dX1_init_40 : decode cX1_init 40 = .ok (.return_, 1) := by decide +kernel
set_option maxRecDepth 20000 in
theorem ggX1_prepare_X4_copyFrom : GoodIn wsX1_prepare wsX4_copyFrom := goodIn_r _ [7, 8, 9, 10, 11, 12, 13, 14, 15, 16, 17, 18, 19, 20, 21, 22, 23, 24, 25, 26, 27, 28, 29, 30, 31, 34, 35, 36, 37, 38, 39, 40, 41, 42, 43, 44, 45, 46, 47, 48] (by decide +kernel) (by decide +kernel)
set_option maxRecDepth 20000 in
theorem gX1_prepare_X4_copyFrom : GoodIn wsX1_prepare (wsV RX1 22 RX4 yX4_copyFrom wsX4_copyFrom) := goodIn_app (goodIn_of _ (by decide +kernel)) ggX1_prepare_X4_copyFrom
theorem dX1_prepare_0 : decode cX1_prepare 0 = .ok (.aload_n 0, 1) := by decide +kernel
theorem dX1_prepare_1 : decode cX1_prepare 1 = .ok (.getfield 18, 3) := by decide +kernel
theorem dX1_prepare_4 : decode cX1_prepare 4 = .ok (.ifCond .lt 25, 3) := by decide +kernel
theorem dX1_prepare_7 : decode cX1_prepare 7 = .ok (.aload_n 0, 1) := by decide +kernel
theorem dX1_prepare_8 : decode cX1_prepare 8 = .ok (.getfield 18, 3) := by decide +kernel
theorem dX1_prepare_11 : decode cX1_prepare 11 = .ok (.bipush 6, 2) := by decide +kernel
theorem dX1_prepare_13 : decode cX1_prepare 13 = .ok (.if_icmp .gt 16, 3) := by decide +kernel
theorem dX1_prepare_16 : decode cX1_prepare 16 = .ok (.aload_n 0, 1) := by decide +kernel
theorem dX1_prepare_17 : decode cX1_prepare 17 = .ok (.getfield 11, 3) := by decide +kernel
theorem dX1_prepare_20 : decode cX1_prepare 20 = .ok (.aload_n 0, 1) := by decide +kernel
theorem dX1_prepare_21 : decode cX1_prepare 21 = .ok (.getfield 18, 3) := by decide +kernel
theorem dX1_prepare_24 : decode cX1_prepare 24 = .ok (.aaload, 1) := by decide +kernel
theorem dX1_prepare_25 : decode cX1_prepare 25 = .ok (.aload_n 1, 1) := by decide +kernel
theorem dX1_prepare_26 : decode cX1_prepare 26 = .ok (.invokevirtual 22, 3) := by decide +kernel
theorem dX1_prepare_29 : decode cX1_prepare 29 = .ok (.return_, 1) := by decide +kernel
set_option maxRecDepth 20000 in
theorem ggX1_keepPrepared_X1_dropOldest : GoodIn wsX1_keepPrepared wsX1_dropOldest := goodIn_r _ [6, 7, 8, 9] (by decide +kernel) (by decide +kernel)
set_option maxRecDepth 20000 in
theorem gX1_keepPrepared_X1_dropOldest : GoodIn wsX1_keepPrepared (wsV RX1 26 RX1 yX1_dropOldest wsX1_dropOldest) := goodIn_app (goodIn_of _ (by decide +kernel)) ggX1_keepPrepared_X1_dropOldest
theorem dX1_keepPrepared_0 : decode cX1_keepPrepared 0 = .ok (.aload_n 0, 1) := by decide +kernel
theorem dX1_keepPrepared_1 : decode cX1_keepPrepared 1 = .ok (.getfield 18, 3) := by decide +kernel
theorem dX1_keepPrepared_4 : decode cX1_keepPrepared 4 = .ok (.bipush 6, 2) := by decide +kernel
theorem dX1_keepPrepared_6 : decode cX1_keepPrepared 6 = .ok (.if_icmp .ge 16, 3) := by decide +kernel
theorem dX1_keepPrepared_9 : decode cX1_keepPrepared 9 = .ok (.aload_n 0, 1) := by decide +kernel
theorem dX1_keepPrepared_10 : decode cX1_keepPrepared 10 = .ok (.dup, 1) := by decide +kernel
theorem dX1_keepPrepared_11 : decode cX1_keepPrepared 11 = .ok (.getfield 18, 3) := by decide +kernel
theorem dX1_keepPrepared_14 : decode cX1_keepPrepared 14 = .ok (.iconst 1, 1) := by decide +kernel
theorem dX1_keepPrepared_15 : decode cX1_keepPrepared 15 = .ok (.iadd, 1) := by decide +kernel
theorem dX1_keepPrepared_16 : decode cX1_keepPrepared 16 = .ok (.putfield 18, 3) := by decide +kernel
theorem dX1_keepPrepared_19 : decode cX1_keepPrepared 19 = .ok (.goto 7, 3) := by decide +kernel
theorem dX1_keepPrepared_22 : decode cX1_keepPrepared 22 = .ok (.aload_n 0, 1) := by decide +kernel
theorem dX1_keepPrepared_23 : decode cX1_keepPrepared 23 = .ok (.invokevirtual 26, 3) := by decide +kernel
theorem dX1_keepPrepared_26 : decode cX1_keepPrepared 26 = .ok (.return_, 1) := by decide +kernel
theorem dX1_dropOldest_0 : decode cX1_dropOldest 0 = .ok (.aload_n 0, 1) := by decide +kernel
theorem dX1_dropOldest_1 : decode cX1_dropOldest 1 = .ok (.getfield 11, 3) := by decide +kernel
theorem dX1_dropOldest_4 : decode cX1_dropOldest 4 = .ok (.iconst 0, 1) := by decide +kernel
theorem dX1_dropOldest_5 : decode cX1_dropOldest 5 = .ok (.aaload, 1) := by decide +kernel
theorem dX1_dropOldest_6 : decode cX1_dropOldest 6 = .ok (.astore_n 1, 1) := by decide +kernel
theorem dX1_dropOldest_7 : decode cX1_dropOldest 7 = .ok (.iconst 0, 1) := by decide +kernel
theorem dX1_dropOldest_8 : decode cX1_dropOldest 8 = .ok (.istore_n 2, 1) := by decide +kernel
theorem dX1_dropOldest_9 : decode cX1_dropOldest 9 = .ok (.iload_n 2, 1) := by decide +kernel
theorem dX1_dropOldest_10 : decode cX1_dropOldest 10 = .ok (.bipush 6, 2) := by decide +kernel
theorem dX1_dropOldest_12 : decode cX1_dropOldest 12 = .ok (.if_icmp .ge 23, 3) := by decide +kernel
theorem dX1_dropOldest_15 : decode cX1_dropOldest 15 = .ok (.aload_n 0, 1) := by decide +kernel
theorem dX1_dropOldest_16 : decode cX1_dropOldest 16 = .ok (.getfield 11, 3) := by decide +kernel
theorem dX1_dropOldest_19 : decode cX1_dropOldest 19 = .ok (.iload_n 2, 1) := by decide +kernel
theorem dX1_dropOldest_20 : decode cX1_dropOldest 20 = .ok (.aload_n 0, 1) := by decide +kernel
theorem dX1_dropOldest_21 : decode cX1_dropOldest 21 = .ok (.getfield 11, 3) := by decide +kernel
theorem dX1_dropOldest_24 : decode cX1_dropOldest 24 = .ok (.iload_n 2, 1) := by decide +kernel
theorem dX1_dropOldest_25 : decode cX1_dropOldest 25 = .ok (.iconst 1, 1) := by decide +kernel
theorem dX1_dropOldest_26 : decode cX1_dropOldest 26 = .ok (.iadd, 1) := by decide +kernel
theorem dX1_dropOldest_27 : decode cX1_dropOldest 27 = .ok (.aaload, 1) := by decide +kernel
theorem dX1_dropOldest_28 : decode cX1_dropOldest 28 = .ok (.aastore, 1) := by decide +kernel
theorem dX1_dropOldest_29 : decode cX1_dropOldest 29 = .ok (.iinc 2 1, 3) := by decide +kernel
theorem dX1_dropOldest_32 : decode cX1_dropOldest 32 = .ok (.goto (-23), 3) := by decide +kernel
theorem dX1_dropOldest_35 : decode cX1_dropOldest 35 = .ok (.aload_n 0, 1) := by decide +kernel
theorem dX1_dropOldest_36 : decode cX1_dropOldest 36 = .ok (.getfield 11, 3) := by decide +kernel
theorem dX1_dropOldest_39 : decode cX1_dropOldest 39 = .ok (.bipush 6, 2) := by decide +kernel
theorem dX1_dropOldest_41 : decode cX1_dropOldest 41 = .ok (.aload_n 1, 1) := by decide +kernel
theorem dX1_dropOldest_42 : decode cX1_dropOldest 42 = .ok (.aastore, 1) := by decide +kernel
theorem dX1_dropOldest_43 : decode cX1_dropOldest 43 = .ok (.return_, 1) := by decide +kernel
set_option maxRecDepth 20000 in
theorem ggX1_takeBack_X4_copyFrom : GoodIn wsX1_takeBack wsX4_copyFrom := goodIn_r _ [7, 8, 9, 10, 11, 12, 13, 14, 15, 16, 17, 18, 19, 20, 21, 22, 23, 24, 25, 26, 27, 28, 29, 30, 31, 34, 35, 36, 37, 38, 39, 40, 41, 42, 43, 44, 45, 46, 47, 48] (by decide +kernel) (by decide +kernel)
set_option maxRecDepth 20000 in
theorem gX1_takeBack_X4_copyFrom : GoodIn wsX1_takeBack (wsV RX1 22 RX4 yX4_copyFrom wsX4_copyFrom) := goodIn_app (goodIn_of _ (by decide +kernel)) ggX1_takeBack_X4_copyFrom
theorem dX1_takeBack_0 : decode cX1_takeBack 0 = .ok (.aload_n 0, 1) := by decide +kernel
theorem dX1_takeBack_1 : decode cX1_takeBack 1 = .ok (.getfield 18, 3) := by decide +kernel
theorem dX1_takeBack_4 : decode cX1_takeBack 4 = .ok (.ifCond .le 12, 3) := by decide +kernel
theorem dX1_takeBack_7 : decode cX1_takeBack 7 = .ok (.aload_n 0, 1) := by decide +kernel
theorem dX1_takeBack_8 : decode cX1_takeBack 8 = .ok (.getfield 18, 3) := by decide +kernel
theorem dX1_takeBack_11 : decode cX1_takeBack 11 = .ok (.bipush 6, 2) := by decide +kernel
theorem dX1_takeBack_13 : decode cX1_takeBack 13 = .ok (.if_icmp .le 5, 3) := by decide +kernel
theorem dX1_takeBack_16 : decode cX1_takeBack 16 = .ok (.iconst 0, 1) := by decide +kernel
theorem dX1_takeBack_17 : decode cX1_takeBack 17 = .ok (.ireturn, 1) := by decide +kernel
theorem dX1_takeBack_18 : decode cX1_takeBack 18 = .ok (.aload_n 0, 1) := by decide +kernel
theorem dX1_takeBack_19 : decode cX1_takeBack 19 = .ok (.dup, 1) := by decide +kernel
theorem dX1_takeBack_20 : decode cX1_takeBack 20 = .ok (.getfield 18, 3) := by decide +kernel
theorem dX1_takeBack_23 : decode cX1_takeBack 23 = .ok (.iconst 1, 1) := by decide +kernel
theorem dX1_takeBack_24 : decode cX1_takeBack 24 = .ok (.isub, 1) := by decide +kernel
theorem dX1_takeBack_25 : decode cX1_takeBack 25 = .ok (.putfield 18, 3) := by decide +kernel
theorem dX1_takeBack_28 : decode cX1_takeBack 28 = .ok (.aload_n 1, 1) := by decide +kernel
theorem dX1_takeBack_29 : decode cX1_takeBack 29 = .ok (.aload_n 0, 1) := by decide +kernel
theorem dX1_takeBack_30 : decode cX1_takeBack 30 = .ok (.getfield 11, 3) := by decide +kernel
theorem dX1_takeBack_33 : decode cX1_takeBack 33 = .ok (.aload_n 0, 1) := by decide +kernel
theorem dX1_takeBack_34 : decode cX1_takeBack 34 = .ok (.getfield 18, 3) := by decide +kernel
theorem dX1_takeBack_37 : decode cX1_takeBack 37 = .ok (.aaload, 1) := by decide +kernel
theorem dX1_takeBack_38 : decode cX1_takeBack 38 = .ok (.invokevirtual 22, 3) := by decide +kernel
theorem dX1_takeBack_41 : decode cX1_takeBack 41 = .ok (.iconst 1, 1) := by decide +kernel
theorem dX1_takeBack_42 : decode cX1_takeBack 42 = .ok (.ireturn, 1) := by decide +kernel
set_option maxRecDepth 20000 in
theorem ggX2_init_X3_init : GoodIn wsX2_init wsX3_init := goodIn_r _ [11, 12, 2, 3, 13, 14, 20, 21] (by decide +kernel) (by decide +kernel)
set_option maxRecDepth 20000 in
theorem gX2_init_X3_init_n17 : GoodIn wsX2_init (wsX3_init) := ggX2_init_X3_init
theorem dX2_init_0 : decode cX2_init 0 = .ok (.aload_n 0, 1) := by decide +kernel
theorem dX2_init_1 : decode cX2_init 1 = .ok (.invokespecial 3, 3) := by decide +kernel
theorem dX2_init_4 : decode cX2_init 4 = .ok (.aload_n 0, 1) := by decide +kernel
theorem dX2_init_5 : decode cX2_init 5 = .ok (.bipush 80, 2) := by decide +kernel
theorem dX2_init_7 : decode cX2_init 7 = .ok (.newarray .char, 2) := by decide +kernel
theorem dX2_init_9 : decode cX2_init 9 = .ok (.putfield 9, 3) := by decide +kernel
theorem dX2_init_12 : decode cX2_init 12 = .ok (.aload_n 0, 1) := by decide +kernel
theorem dX2_init_13 : decode cX2_init 13 = .ok (.new 15, 3) := by decide +kernel
theorem dX2_init_16 : decode cX2_init 16 = .ok (.dup, 1) := by decide +kernel
theorem dX2_init_17 : decode cX2_init 17 = .ok (.invokespecial 17, 3) := by decide +kernel
theorem dX2_init_20 : decode cX2_init 20 = .ok (.putfield 18, 3) := by decide +kernel
theorem dX2_init_23 : decode cX2_init 23 = .ok (.return_, 1) := by decide +kernel
theorem dX3_init_0 : decode cX3_init 0 = .ok (.aload_n 0, 1) := by decide +kernel
theorem dX3_init_1 : decode cX3_init 1 = .ok (.invokespecial 3, 3) := by decide +kernel
theorem dX3_init_4 : decode cX3_init 4 = .ok (.aload_n 0, 1) := by decide +kernel
theorem dX3_init_5 : decode cX3_init 5 = .ok (.bipush 40, 2) := by decide +kernel
theorem dX3_init_7 : decode cX3_init 7 = .ok (.newarray .int, 2) := by decide +kernel
theorem dX3_init_9 : decode cX3_init 9 = .ok (.putfield 9, 3) := by decide +kernel
theorem dX3_init_12 : decode cX3_init 12 = .ok (.return_, 1) := by decide +kernel
theorem dX3_clear_0 : decode cX3_clear 0 = .ok (.aload_n 0, 1) := by decide +kernel
theorem dX3_clear_1 : decode cX3_clear 1 = .ok (.iconst 0, 1) := by decide +kernel
theorem dX3_clear_2 : decode cX3_clear 2 = .ok (.putfield 15, 3) := by decide +kernel
theorem dX3_clear_5 : decode cX3_clear 5 = .ok (.return_, 1) := by decide +kernel
theorem dX3_add_0 : decode cX3_add 0 = .ok (.aload_n 0, 1) := by decide +kernel
theorem dX3_add_1 : decode cX3_add 1 = .ok (.getfield 15, 3) := by decide +kernel
theorem dX3_add_4 : decode cX3_add 4 = .ok (.bipush 40, 2) := by decide +kernel
theorem dX3_add_6 : decode cX3_add 6 = .ok (.if_icmp .lt 5, 3) := by decide +kernel
theorem dX3_add_9 : decode cX3_add 9 = .ok (.iconst 0, 1) := by decide +kernel
theorem dX3_add_10 : decode cX3_add 10 = .ok (.ireturn, 1) := by decide +kernel
theorem dX3_add_11 : decode cX3_add 11 = .ok (.aload_n 0, 1) := by decide +kernel
theorem dX3_add_12 : decode cX3_add 12 = .ok (.getfield 9, 3) := by decide +kernel
theorem dX3_add_15 : decode cX3_add 15 = .ok (.aload_n 0, 1) := by decide +kernel
theorem dX3_add_16 : decode cX3_add 16 = .ok (.getfield 15, 3) := by decide +kernel
theorem dX3_add_19 : decode cX3_add 19 = .ok (.iload_n 1, 1) := by decide +kernel
theorem dX3_add_20 : decode cX3_add 20 = .ok (.iastore, 1) := by decide +kernel
theorem dX3_add_21 : decode cX3_add 21 = .ok (.aload_n 0, 1) := by decide +kernel
theorem dX3_add_22 : decode cX3_add 22 = .ok (.dup, 1) := by decide +kernel
theorem dX3_add_23 : decode cX3_add 23 = .ok (.getfield 15, 3) := by decide +kernel
theorem dX3_add_26 : decode cX3_add 26 = .ok (.iconst 1, 1) := by decide +kernel
theorem dX3_add_27 : decode cX3_add 27 = .ok (.iadd, 1) := by decide +kernel
theorem dX3_add_28 : decode cX3_add 28 = .ok (.putfield 15, 3) := by decide +kernel
theorem dX3_add_31 : decode cX3_add 31 = .ok (.iconst 1, 1) := by decide +kernel
theorem dX3_add_32 : decode cX3_add 32 = .ok (.ireturn, 1) := by decide +kernel
theorem dX3_at_0 : decode cX3_at 0 = .ok (.iload_n 1, 1) := by decide +kernel
theorem dX3_at_1 : decode cX3_at 1 = .ok (.ifCond .lt 20, 3) := by decide +kernel
theorem dX3_at_4 : decode cX3_at 4 = .ok (.iload_n 1, 1) := by decide +kernel
theorem dX3_at_5 : decode cX3_at 5 = .ok (.aload_n 0, 1) := by decide +kernel
theorem dX3_at_6 : decode cX3_at 6 = .ok (.getfield 15, 3) := by decide +kernel
theorem dX3_at_9 : decode cX3_at 9 = .ok (.if_icmp .ge 12, 3) := by decide +kernel
theorem dX3_at_12 : decode cX3_at 12 = .ok (.aload_n 0, 1) := by decide +kernel
theorem dX3_at_13 : decode cX3_at 13 = .ok (.getfield 9, 3) := by decide +kernel
theorem dX3_at_16 : decode cX3_at 16 = .ok (.iload_n 1, 1) := by decide +kernel
theorem dX3_at_17 : decode cX3_at 17 = .ok (.iaload, 1) := by decide +kernel
theorem dX3_at_18 : decode cX3_at 18 = .ok (.goto 5, 3) := by decide +kernel
theorem dX3_at_21 : decode cX3_at 21 = .ok (.bipush (-6), 2) := by decide +kernel
theorem dX3_at_23 : decode cX3_at 23 = .ok (.ireturn, 1) := by decide +kernel
theorem dX3_turnRound_0 : decode cX3_turnRound 0 = .ok (.iconst 0, 1) := by decide +kernel
theorem dX3_turnRound_1 : decode cX3_turnRound 1 = .ok (.istore_n 1, 1) := by decide +kernel
theorem dX3_turnRound_2 : decode cX3_turnRound 2 = .ok (.iload_n 1, 1) := by decide +kernel
theorem dX3_turnRound_3 : decode cX3_turnRound 3 = .ok (.aload_n 0, 1) := by decide +kernel
theorem dX3_turnRound_4 : decode cX3_turnRound 4 = .ok (.getfield 15, 3) := by decide +kernel
theorem dX3_turnRound_7 : decode cX3_turnRound 7 = .ok (.iconst 2, 1) := by decide +kernel
theorem dX3_turnRound_8 : decode cX3_turnRound 8 = .ok (.idiv, 1) := by decide +kernel
theorem dX3_turnRound_9 : decode cX3_turnRound 9 = .ok (.if_icmp .ge 49, 3) := by decide +kernel
theorem dX3_turnRound_12 : decode cX3_turnRound 12 = .ok (.aload_n 0, 1) := by decide +kernel
theorem dX3_turnRound_13 : decode cX3_turnRound 13 = .ok (.getfield 9, 3) := by decide +kernel
theorem dX3_turnRound_16 : decode cX3_turnRound 16 = .ok (.iload_n 1, 1) := by decide +kernel
theorem dX3_turnRound_17 : decode cX3_turnRound 17 = .ok (.iaload, 1) := by decide +kernel
theorem dX3_turnRound_18 : decode cX3_turnRound 18 = .ok (.istore_n 2, 1) := by decide +kernel
theorem dX3_turnRound_19 : decode cX3_turnRound 19 = .ok (.aload_n 0, 1) := by decide +kernel
theorem dX3_turnRound_20 : decode cX3_turnRound 20 = .ok (.getfield 9, 3) := by decide +kernel
theorem dX3_turnRound_23 : decode cX3_turnRound 23 = .ok (.iload_n 1, 1) := by decide +kernel
theorem dX3_turnRound_24 : decode cX3_turnRound 24 = .ok (.aload_n 0, 1) := by decide +kernel
theorem dX3_turnRound_25 : decode cX3_turnRound 25 = .ok (.getfield 9, 3) := by decide +kernel
theorem dX3_turnRound_28 : decode cX3_turnRound 28 = .ok (.aload_n 0, 1) := by decide +kernel
theorem dX3_turnRound_29 : decode cX3_turnRound 29 = .ok (.getfield 15, 3) := by decide +kernel
theorem dX3_turnRound_32 : decode cX3_turnRound 32 = .ok (.iconst 1, 1) := by decide +kernel
theorem dX3_turnRound_33 : decode cX3_turnRound 33 = .ok (.isub, 1) := by decide +kernel
theorem dX3_turnRound_34 : decode cX3_turnRound 34 = .ok (.iload_n 1, 1) := by decide +kernel
theorem dX3_turnRound_35 : decode cX3_turnRound 35 = .ok (.isub, 1) := by decide +kernel
theorem dX3_turnRound_36 : decode cX3_turnRound 36 = .ok (.iaload, 1) := by decide +kernel
theorem dX3_turnRound_37 : decode cX3_turnRound 37 = .ok (.iastore, 1) := by decide +kernel
theorem dX3_turnRound_38 : decode cX3_turnRound 38 = .ok (.aload_n 0, 1) := by decide +kernel
theorem dX3_turnRound_39 : decode cX3_turnRound 39 = .ok (.getfield 9, 3) := by decide +kernel
theorem dX3_turnRound_42 : decode cX3_turnRound 42 = .ok (.aload_n 0, 1) := by decide +kernel
theorem dX3_turnRound_43 : decode cX3_turnRound 43 = .ok (.getfield 15, 3) := by decide +kernel
theorem dX3_turnRound_46 : decode cX3_turnRound 46 = .ok (.iconst 1, 1) := by decide +kernel
theorem dX3_turnRound_47 : decode cX3_turnRound 47 = .ok (.isub, 1) := by decide +kernel
theorem dX3_turnRound_48 : decode cX3_turnRound 48 = .ok (.iload_n 1, 1) := by decide +kernel
theorem dX3_turnRound_49 : decode cX3_turnRound 49 = .ok (.isub, 1) := by decide +kernel
theorem dX3_turnRound_50 : decode cX3_turnRound 50 = .ok (.iload_n 2, 1) := by decide +kernel
theorem dX3_turnRound_51 : decode cX3_turnRound 51 = .ok (.iastore, 1) := by decide +kernel
theorem dX3_turnRound_52 : decode cX3_turnRound 52 = .ok (.iinc 1 1, 3) := by decide +kernel
theorem dX3_turnRound_55 : decode cX3_turnRound 55 = .ok (.goto (-53), 3) := by decide +kernel
theorem dX3_turnRound_58 : decode cX3_turnRound 58 = .ok (.return_, 1) := by decide +kernel
set_option maxRecDepth 20000 in
theorem ggX4_init_X0_init : GoodIn wsX4_init wsX0_init := goodIn_r _ [16, 17, 2, 3] (by decide +kernel) (by decide +kernel)
set_option maxRecDepth 20000 in
theorem gX4_init_X0_init_n33 : GoodIn wsX4_init (wsX0_init) := ggX4_init_X0_init
theorem dX4_init_0 : decode cX4_init 0 = .ok (.aload_n 0, 1) := by decide +kernel
theorem dX4_init_1 : decode cX4_init 1 = .ok (.invokespecial 3, 3) := by decide +kernel
theorem dX4_init_4 : decode cX4_init 4 = .ok (.aload_n 0, 1) := by decide +kernel
theorem dX4_init_5 : decode cX4_init 5 = .ok (.iconst 4, 1) := by decide +kernel
theorem dX4_init_6 : decode cX4_init 6 = .ok (.newarray .int, 2) := by decide +kernel
theorem dX4_init_8 : decode cX4_init 8 = .ok (.putfield 9, 3) := by decide +kernel
theorem dX4_init_11 : decode cX4_init 11 = .ok (.aload_n 0, 1) := by decide +kernel
theorem dX4_init_12 : decode cX4_init 12 = .ok (.bipush 16, 2) := by decide +kernel
theorem dX4_init_14 : decode cX4_init 14 = .ok (.anewarray 15, 3) := by decide +kernel
theorem dX4_init_17 : decode cX4_init 17 = .ok (.putfield 17, 3) := by decide +kernel
theorem dX4_init_20 : decode cX4_init 20 = .ok (.aload_n 0, 1) := by decide +kernel
theorem dX4_init_21 : decode cX4_init 21 = .ok (.iconst 4, 1) := by decide +kernel
theorem dX4_init_22 : decode cX4_init 22 = .ok (.newarray .int, 2) := by decide +kernel
theorem dX4_init_24 : decode cX4_init 24 = .ok (.putfield 21, 3) := by decide +kernel
theorem dX4_init_27 : decode cX4_init 27 = .ok (.getstatic 24, 3) := by decide +kernel
theorem dX4_init_30 : decode cX4_init 30 = .ok (.iconst 0, 1) := by decide +kernel
theorem dX4_init_31 : decode cX4_init 31 = .ok (.aload_n 0, 1) := by decide +kernel
theorem dX4_init_32 : decode cX4_init 32 = .ok (.getfield 9, 3) := by decide +kernel
theorem dX4_init_35 : decode cX4_init 35 = .ok (.iconst 0, 1) := by decide +kernel
theorem dX4_init_36 : decode cX4_init 36 = .ok (.iconst 4, 1) := by decide +kernel
theorem dX4_init_37 : decode cX4_init 37 = .ok (.invokestatic 27, 3) := by decide +kernel
theorem dX4_init_40 : decode cX4_init 40 = .ok (.iconst 0, 1) := by decide +kernel
theorem dX4_init_41 : decode cX4_init 41 = .ok (.istore_n 1, 1) := by decide +kernel
theorem dX4_init_42 : decode cX4_init 42 = .ok (.iload_n 1, 1) := by decide +kernel
theorem dX4_init_43 : decode cX4_init 43 = .ok (.bipush 16, 2) := by decide +kernel
theorem dX4_init_45 : decode cX4_init 45 = .ok (.if_icmp .ge 22, 3) := by decide +kernel
theorem dX4_init_48 : decode cX4_init 48 = .ok (.aload_n 0, 1) := by decide +kernel
theorem dX4_init_49 : decode cX4_init 49 = .ok (.getfield 17, 3) := by decide +kernel
theorem dX4_init_52 : decode cX4_init 52 = .ok (.iload_n 1, 1) := by decide +kernel
theorem dX4_init_53 : decode cX4_init 53 = .ok (.new 15, 3) := by decide +kernel
theorem dX4_init_56 : decode cX4_init 56 = .ok (.dup, 1) := by decide +kernel
theorem dX4_init_57 : decode cX4_init 57 = .ok (.invokespecial 33, 3) := by decide +kernel
theorem dX4_init_60 : decode cX4_init 60 = .ok (.aastore, 1) := by decide +kernel
theorem dX4_init_61 : decode cX4_init 61 = .ok (.iinc 1 1, 3) := by decide +kernel
theorem dX4_init_64 : decode cX4_init 64 = .ok (.goto (-22), 3) := by decide +kernel
theorem dX4_init_67 : decode cX4_init 67 = .ok (.return_, 1) := by decide +kernel
set_option maxRecDepth 20000 in
theorem ggX4_copyFrom_X0_copyFrom : GoodIn wsX4_copyFrom wsX0_copyFrom := goodIn_r _ [16, 17, 18, 19, 20, 21, 22, 23, 24, 32, 33, 34, 35, 36, 37, 38, 39] (by decide +kernel) (by decide +kernel)
set_option maxRecDepth 20000 in
theorem gX4_copyFrom_X0_copyFrom : GoodIn wsX4_copyFrom (wsV RX4 38 RX0 yX0_copyFrom wsX0_copyFrom) := goodIn_app (goodIn_of _ (by decide +kernel)) ggX4_copyFrom_X0_copyFrom
theorem dX4_copyFrom_0 : decode cX4_copyFrom 0 = .ok (.aload_n 1, 1) := by decide +kernel
theorem dX4_copyFrom_1 : decode cX4_copyFrom 1 = .ok (.getfield 9, 3) := by decide +kernel
theorem dX4_copyFrom_4 : decode cX4_copyFrom 4 = .ok (.iconst 0, 1) := by decide +kernel
theorem dX4_copyFrom_5 : decode cX4_copyFrom 5 = .ok (.aload_n 0, 1) := by decide +kernel
theorem dX4_copyFrom_6 : decode cX4_copyFrom 6 = .ok (.getfield 9, 3) := by decide +kernel
theorem dX4_copyFrom_9 : decode cX4_copyFrom 9 = .ok (.iconst 0, 1) := by decide +kernel
theorem dX4_copyFrom_10 : decode cX4_copyFrom 10 = .ok (.iconst 4, 1) := by decide +kernel
theorem dX4_copyFrom_11 : decode cX4_copyFrom 11 = .ok (.invokestatic 27, 3) := by decide +kernel
theorem dX4_copyFrom_14 : decode cX4_copyFrom 14 = .ok (.aload_n 1, 1) := by decide +kernel
theorem dX4_copyFrom_15 : decode cX4_copyFrom 15 = .ok (.getfield 21, 3) := by decide +kernel
theorem dX4_copyFrom_18 : decode cX4_copyFrom 18 = .ok (.iconst 0, 1) := by decide +kernel
theorem dX4_copyFrom_19 : decode cX4_copyFrom 19 = .ok (.aload_n 0, 1) := by decide +kernel
theorem dX4_copyFrom_20 : decode cX4_copyFrom 20 = .ok (.getfield 21, 3) := by decide +kernel
theorem dX4_copyFrom_23 : decode cX4_copyFrom 23 = .ok (.iconst 0, 1) := by decide +kernel
theorem dX4_copyFrom_24 : decode cX4_copyFrom 24 = .ok (.iconst 4, 1) := by decide +kernel
theorem dX4_copyFrom_25 : decode cX4_copyFrom 25 = .ok (.invokestatic 27, 3) := by decide +kernel
theorem dX4_copyFrom_28 : decode cX4_copyFrom 28 = .ok (.iconst 0, 1) := by decide +kernel
theorem dX4_copyFrom_29 : decode cX4_copyFrom 29 = .ok (.istore_n 2, 1) := by decide +kernel
theorem dX4_copyFrom_30 : decode cX4_copyFrom 30 = .ok (.iload_n 2, 1) := by decide +kernel
theorem dX4_copyFrom_31 : decode cX4_copyFrom 31 = .ok (.aload_n 1, 1) := by decide +kernel
theorem dX4_copyFrom_32 : decode cX4_copyFrom 32 = .ok (.getfield 34, 3) := by decide +kernel
theorem dX4_copyFrom_35 : decode cX4_copyFrom 35 = .ok (.if_icmp .ge 24, 3) := by decide +kernel
theorem dX4_copyFrom_38 : decode cX4_copyFrom 38 = .ok (.aload_n 0, 1) := by decide +kernel
theorem dX4_copyFrom_39 : decode cX4_copyFrom 39 = .ok (.getfield 17, 3) := by decide +kernel
theorem dX4_copyFrom_42 : decode cX4_copyFrom 42 = .ok (.iload_n 2, 1) := by decide +kernel
theorem dX4_copyFrom_43 : decode cX4_copyFrom 43 = .ok (.aaload, 1) := by decide +kernel
theorem dX4_copyFrom_44 : decode cX4_copyFrom 44 = .ok (.aload_n 1, 1) := by decide +kernel
theorem dX4_copyFrom_45 : decode cX4_copyFrom 45 = .ok (.getfield 17, 3) := by decide +kernel
theorem dX4_copyFrom_48 : decode cX4_copyFrom 48 = .ok (.iload_n 2, 1) := by decide +kernel
theorem dX4_copyFrom_49 : decode cX4_copyFrom 49 = .ok (.aaload, 1) := by decide +kernel
theorem dX4_copyFrom_50 : decode cX4_copyFrom 50 = .ok (.invokevirtual 38, 3) := by decide +kernel
theorem dX4_copyFrom_53 : decode cX4_copyFrom 53 = .ok (.iinc 2 1, 3) := by decide +kernel
theorem dX4_copyFrom_56 : decode cX4_copyFrom 56 = .ok (.goto (-26), 3) := by decide +kernel
theorem dX4_copyFrom_59 : decode cX4_copyFrom 59 = .ok (.aload_n 0, 1) := by decide +kernel
theorem dX4_copyFrom_60 : decode cX4_copyFrom 60 = .ok (.aload_n 1, 1) := by decide +kernel
theorem dX4_copyFrom_61 : decode cX4_copyFrom 61 = .ok (.getfield 34, 3) := by decide +kernel
theorem dX4_copyFrom_64 : decode cX4_copyFrom 64 = .ok (.putfield 34, 3) := by decide +kernel
theorem dX4_copyFrom_67 : decode cX4_copyFrom 67 = .ok (.aload_n 0, 1) := by decide +kernel
theorem dX4_copyFrom_68 : decode cX4_copyFrom 68 = .ok (.aload_n 1, 1) := by decide +kernel
theorem dX4_copyFrom_69 : decode cX4_copyFrom 69 = .ok (.getfield 42, 3) := by decide +kernel
theorem dX4_copyFrom_72 : decode cX4_copyFrom 72 = .ok (.putfield 42, 3) := by decide +kernel
theorem dX4_copyFrom_75 : decode cX4_copyFrom 75 = .ok (.aload_n 0, 1) := by decide +kernel
theorem dX4_copyFrom_76 : decode cX4_copyFrom 76 = .ok (.aload_n 1, 1) := by decide +kernel
theorem dX4_copyFrom_77 : decode cX4_copyFrom 77 = .ok (.getfield 45, 3) := by decide +kernel
theorem dX4_copyFrom_80 : decode cX4_copyFrom 80 = .ok (.putfield 45, 3) := by decide +kernel
theorem dX4_copyFrom_83 : decode cX4_copyFrom 83 = .ok (.aload_n 0, 1) := by decide +kernel
theorem dX4_copyFrom_84 : decode cX4_copyFrom 84 = .ok (.aload_n 1, 1) := by decide +kernel
theorem dX4_copyFrom_85 : decode cX4_copyFrom 85 = .ok (.getfield 48, 3) := by decide +kernel
theorem dX4_copyFrom_88 : decode cX4_copyFrom 88 = .ok (.putfield 48, 3) := by decide +kernel
theorem dX4_copyFrom_91 : decode cX4_copyFrom 91 = .ok (.return_, 1) := by decide +kernel
theorem dX4_hasClock_0 : decode cX4_hasClock 0 = .ok (.iload_n 1, 1) := by decide +kernel
theorem dX4_hasClock_1 : decode cX4_hasClock 1 = .ok (.ifCond .lt 15, 3) := by decide +kernel
theorem dX4_hasClock_4 : decode cX4_hasClock 4 = .ok (.iload_n 1, 1) := by decide +kernel
theorem dX4_hasClock_5 : decode cX4_hasClock 5 = .ok (.aload_n 0, 1) := by decide +kernel
theorem dX4_hasClock_6 : decode cX4_hasClock 6 = .ok (.getfield 34, 3) := by decide +kernel
theorem dX4_hasClock_9 : decode cX4_hasClock 9 = .ok (.if_icmp .ge 7, 3) := by decide +kernel
theorem dX4_hasClock_12 : decode cX4_hasClock 12 = .ok (.iconst 1, 1) := by decide +kernel
theorem dX4_hasClock_13 : decode cX4_hasClock 13 = .ok (.goto 4, 3) := by decide +kernel
theorem dX4_hasClock_16 : decode cX4_hasClock 16 = .ok (.iconst 0, 1) := by decide +kernel
theorem dX4_hasClock_17 : decode cX4_hasClock 17 = .ok (.ireturn, 1) := by decide +kernel
theorem dX4_hasLadder_0 : decode cX4_hasLadder 0 = .ok (.iload_n 1, 1) := by decide +kernel
theorem dX4_hasLadder_1 : decode cX4_hasLadder 1 = .ok (.ifCond .lt 15, 3) := by decide +kernel
theorem dX4_hasLadder_4 : decode cX4_hasLadder 4 = .ok (.iload_n 1, 1) := by decide +kernel
theorem dX4_hasLadder_5 : decode cX4_hasLadder 5 = .ok (.aload_n 0, 1) := by decide +kernel
theorem dX4_hasLadder_6 : decode cX4_hasLadder 6 = .ok (.getfield 42, 3) := by decide +kernel
theorem dX4_hasLadder_9 : decode cX4_hasLadder 9 = .ok (.if_icmp .ge 7, 3) := by decide +kernel
theorem dX4_hasLadder_12 : decode cX4_hasLadder 12 = .ok (.iconst 1, 1) := by decide +kernel
theorem dX4_hasLadder_13 : decode cX4_hasLadder 13 = .ok (.goto 4, 3) := by decide +kernel
theorem dX4_hasLadder_16 : decode cX4_hasLadder 16 = .ok (.iconst 0, 1) := by decide +kernel
theorem dX4_hasLadder_17 : decode cX4_hasLadder 17 = .ok (.ireturn, 1) := by decide +kernel
set_option maxRecDepth 20000 in
theorem ggX4_replaceSetting_X5_isWithin : GoodIn wsX4_replaceSetting wsX5_isWithin := goodIn_r _ [4] (by decide +kernel) (by decide +kernel)
set_option maxRecDepth 20000 in
theorem gX4_replaceSetting_X5_isWithin_n54 : GoodIn wsX4_replaceSetting (wsX5_isWithin) := ggX4_replaceSetting_X5_isWithin
theorem dX4_replaceSetting_0 : decode cX4_replaceSetting 0 = .ok (.iload_n 1, 1) := by decide +kernel
theorem dX4_replaceSetting_1 : decode cX4_replaceSetting 1 = .ok (.ifCond .lt 21, 3) := by decide +kernel
theorem dX4_replaceSetting_4 : decode cX4_replaceSetting 4 = .ok (.iload_n 1, 1) := by decide +kernel
theorem dX4_replaceSetting_5 : decode cX4_replaceSetting 5 = .ok (.iconst 4, 1) := by decide +kernel
theorem dX4_replaceSetting_6 : decode cX4_replaceSetting 6 = .ok (.if_icmp .ge 16, 3) := by decide +kernel
theorem dX4_replaceSetting_9 : decode cX4_replaceSetting 9 = .ok (.iload_n 2, 1) := by decide +kernel
theorem dX4_replaceSetting_10 : decode cX4_replaceSetting 10 = .ok (.iconst 1, 1) := by decide +kernel
theorem dX4_replaceSetting_11 : decode cX4_replaceSetting 11 = .ok (.getstatic 51, 3) := by decide +kernel
theorem dX4_replaceSetting_14 : decode cX4_replaceSetting 14 = .ok (.iload_n 1, 1) := by decide +kernel
theorem dX4_replaceSetting_15 : decode cX4_replaceSetting 15 = .ok (.iaload, 1) := by decide +kernel
theorem dX4_replaceSetting_16 : decode cX4_replaceSetting 16 = .ok (.invokestatic 54, 3) := by decide +kernel
theorem dX4_replaceSetting_19 : decode cX4_replaceSetting 19 = .ok (.ifCond .ne 6, 3) := by decide +kernel
theorem dX4_replaceSetting_22 : decode cX4_replaceSetting 22 = .ok (.bipush (-2), 2) := by decide +kernel
theorem dX4_replaceSetting_24 : decode cX4_replaceSetting 24 = .ok (.ireturn, 1) := by decide +kernel
theorem dX4_replaceSetting_25 : decode cX4_replaceSetting 25 = .ok (.aload_n 0, 1) := by decide +kernel
theorem dX4_replaceSetting_26 : decode cX4_replaceSetting 26 = .ok (.getfield 9, 3) := by decide +kernel
theorem dX4_replaceSetting_29 : decode cX4_replaceSetting 29 = .ok (.iload_n 1, 1) := by decide +kernel
theorem dX4_replaceSetting_30 : decode cX4_replaceSetting 30 = .ok (.iaload, 1) := by decide +kernel
theorem dX4_replaceSetting_31 : decode cX4_replaceSetting 31 = .ok (.istore_n 3, 1) := by decide +kernel
theorem dX4_replaceSetting_32 : decode cX4_replaceSetting 32 = .ok (.aload_n 0, 1) := by decide +kernel
theorem dX4_replaceSetting_33 : decode cX4_replaceSetting 33 = .ok (.getfield 9, 3) := by decide +kernel
theorem dX4_replaceSetting_36 : decode cX4_replaceSetting 36 = .ok (.iload_n 1, 1) := by decide +kernel
theorem dX4_replaceSetting_37 : decode cX4_replaceSetting 37 = .ok (.iload_n 2, 1) := by decide +kernel
theorem dX4_replaceSetting_38 : decode cX4_replaceSetting 38 = .ok (.iastore, 1) := by decide +kernel
theorem dX4_replaceSetting_39 : decode cX4_replaceSetting 39 = .ok (.iload_n 3, 1) := by decide +kernel
theorem dX4_replaceSetting_40 : decode cX4_replaceSetting 40 = .ok (.ireturn, 1) := by decide +kernel
set_option maxRecDepth 20000 in
theorem ggX4_addClock_X5_isWithin : GoodIn wsX4_addClock wsX5_isWithin := goodIn_r _ [5] (by decide +kernel) (by decide +kernel)
set_option maxRecDepth 20000 in
theorem gX4_addClock_X5_isWithin_n54 : GoodIn wsX4_addClock (wsX5_isWithin) := ggX4_addClock_X5_isWithin
set_option maxRecDepth 20000 in
theorem ggX4_addClock_X0_begin : GoodIn wsX4_addClock wsX0_begin := goodIn_r _ [10, 11, 12, 13, 14, 15, 16, 17, 18, 26, 27, 28, 29, 30, 31, 32, 33] (by decide +kernel) (by decide +kernel)
set_option maxRecDepth 20000 in
theorem gX4_addClock_X0_begin : GoodIn wsX4_addClock (wsV RX4 58 RX0 yX0_begin wsX0_begin) := goodIn_app (goodIn_of _ (by decide +kernel)) ggX4_addClock_X0_begin
theorem dX4_addClock_0 : decode cX4_addClock 0 = .ok (.iload_n 1, 1) := by decide +kernel
theorem dX4_addClock_1 : decode cX4_addClock 1 = .ok (.iconst 0, 1) := by decide +kernel
theorem dX4_addClock_2 : decode cX4_addClock 2 = .ok (.bipush 99, 2) := by decide +kernel
theorem dX4_addClock_4 : decode cX4_addClock 4 = .ok (.invokestatic 54, 3) := by decide +kernel
theorem dX4_addClock_7 : decode cX4_addClock 7 = .ok (.ifCond .eq 24, 3) := by decide +kernel
theorem dX4_addClock_10 : decode cX4_addClock 10 = .ok (.iload_n 2, 1) := by decide +kernel
theorem dX4_addClock_11 : decode cX4_addClock 11 = .ok (.iconst 0, 1) := by decide +kernel
theorem dX4_addClock_12 : decode cX4_addClock 12 = .ok (.bipush 30, 2) := by decide +kernel
theorem dX4_addClock_14 : decode cX4_addClock 14 = .ok (.invokestatic 54, 3) := by decide +kernel
theorem dX4_addClock_17 : decode cX4_addClock 17 = .ok (.ifCond .eq 14, 3) := by decide +kernel
theorem dX4_addClock_20 : decode cX4_addClock 20 = .ok (.iload_n 3, 1) := by decide +kernel
theorem dX4_addClock_21 : decode cX4_addClock 21 = .ok (.bipush (-99), 2) := by decide +kernel
theorem dX4_addClock_23 : decode cX4_addClock 23 = .ok (.bipush 99, 2) := by decide +kernel
theorem dX4_addClock_25 : decode cX4_addClock 25 = .ok (.invokestatic 54, 3) := by decide +kernel
theorem dX4_addClock_28 : decode cX4_addClock 28 = .ok (.ifCond .ne 6, 3) := by decide +kernel
theorem dX4_addClock_31 : decode cX4_addClock 31 = .ok (.bipush (-2), 2) := by decide +kernel
theorem dX4_addClock_33 : decode cX4_addClock 33 = .ok (.ireturn, 1) := by decide +kernel
theorem dX4_addClock_34 : decode cX4_addClock 34 = .ok (.aload_n 0, 1) := by decide +kernel
theorem dX4_addClock_35 : decode cX4_addClock 35 = .ok (.getfield 34, 3) := by decide +kernel
theorem dX4_addClock_38 : decode cX4_addClock 38 = .ok (.bipush 16, 2) := by decide +kernel
theorem dX4_addClock_40 : decode cX4_addClock 40 = .ok (.if_icmp .lt 6, 3) := by decide +kernel
theorem dX4_addClock_43 : decode cX4_addClock 43 = .ok (.bipush (-4), 2) := by decide +kernel
theorem dX4_addClock_45 : decode cX4_addClock 45 = .ok (.ireturn, 1) := by decide +kernel
theorem dX4_addClock_46 : decode cX4_addClock 46 = .ok (.aload_n 0, 1) := by decide +kernel
theorem dX4_addClock_47 : decode cX4_addClock 47 = .ok (.getfield 17, 3) := by decide +kernel
theorem dX4_addClock_50 : decode cX4_addClock 50 = .ok (.aload_n 0, 1) := by decide +kernel
theorem dX4_addClock_51 : decode cX4_addClock 51 = .ok (.getfield 34, 3) := by decide +kernel
theorem dX4_addClock_54 : decode cX4_addClock 54 = .ok (.aaload, 1) := by decide +kernel
theorem dX4_addClock_55 : decode cX4_addClock 55 = .ok (.iload_n 1, 1) := by decide +kernel
theorem dX4_addClock_56 : decode cX4_addClock 56 = .ok (.iload_n 2, 1) := by decide +kernel
theorem dX4_addClock_57 : decode cX4_addClock 57 = .ok (.iload_n 3, 1) := by decide +kernel
theorem dX4_addClock_58 : decode cX4_addClock 58 = .ok (.invokevirtual 58, 3) := by decide +kernel
theorem dX4_addClock_61 : decode cX4_addClock 61 = .ok (.aload_n 0, 1) := by decide +kernel
theorem dX4_addClock_62 : decode cX4_addClock 62 = .ok (.dup, 1) := by decide +kernel
theorem dX4_addClock_63 : decode cX4_addClock 63 = .ok (.getfield 34, 3) := by decide +kernel
theorem dX4_addClock_66 : decode cX4_addClock 66 = .ok (.iconst 1, 1) := by decide +kernel
theorem dX4_addClock_67 : decode cX4_addClock 67 = .ok (.iadd, 1) := by decide +kernel
theorem dX4_addClock_68 : decode cX4_addClock 68 = .ok (.putfield 34, 3) := by decide +kernel
theorem dX4_addClock_71 : decode cX4_addClock 71 = .ok (.aload_n 0, 1) := by decide +kernel
theorem dX4_addClock_72 : decode cX4_addClock 72 = .ok (.getfield 34, 3) := by decide +kernel
theorem dX4_addClock_75 : decode cX4_addClock 75 = .ok (.iconst 1, 1) := by decide +kernel
theorem dX4_addClock_76 : decode cX4_addClock 76 = .ok (.isub, 1) := by decide +kernel
theorem dX4_addClock_77 : decode cX4_addClock 77 = .ok (.ireturn, 1) := by decide +kernel
set_option maxRecDepth 20000 in
theorem ggX4_addLadder_X5_isWithin : GoodIn wsX4_addLadder wsX5_isWithin := goodIn_r _ [5] (by decide +kernel) (by decide +kernel)
set_option maxRecDepth 20000 in
theorem gX4_addLadder_X5_isWithin_n54 : GoodIn wsX4_addLadder (wsX5_isWithin) := ggX4_addLadder_X5_isWithin
theorem dX4_addLadder_0 : decode cX4_addLadder 0 = .ok (.iload_n 1, 1) := by decide +kernel
theorem dX4_addLadder_1 : decode cX4_addLadder 1 = .ok (.iconst 1, 1) := by decide +kernel
theorem dX4_addLadder_2 : decode cX4_addLadder 2 = .ok (.bipush 30, 2) := by decide +kernel
theorem dX4_addLadder_4 : decode cX4_addLadder 4 = .ok (.invokestatic 54, 3) := by decide +kernel
theorem dX4_addLadder_7 : decode cX4_addLadder 7 = .ok (.ifCond .ne 6, 3) := by decide +kernel
theorem dX4_addLadder_10 : decode cX4_addLadder 10 = .ok (.bipush (-2), 2) := by decide +kernel
theorem dX4_addLadder_12 : decode cX4_addLadder 12 = .ok (.ireturn, 1) := by decide +kernel
theorem dX4_addLadder_13 : decode cX4_addLadder 13 = .ok (.aload_n 0, 1) := by decide +kernel
theorem dX4_addLadder_14 : decode cX4_addLadder 14 = .ok (.getfield 42, 3) := by decide +kernel
theorem dX4_addLadder_17 : decode cX4_addLadder 17 = .ok (.iconst 4, 1) := by decide +kernel
theorem dX4_addLadder_18 : decode cX4_addLadder 18 = .ok (.if_icmp .lt 6, 3) := by decide +kernel
theorem dX4_addLadder_21 : decode cX4_addLadder 21 = .ok (.bipush (-4), 2) := by decide +kernel
theorem dX4_addLadder_23 : decode cX4_addLadder 23 = .ok (.ireturn, 1) := by decide +kernel
theorem dX4_addLadder_24 : decode cX4_addLadder 24 = .ok (.aload_n 0, 1) := by decide +kernel
theorem dX4_addLadder_25 : decode cX4_addLadder 25 = .ok (.getfield 21, 3) := by decide +kernel
theorem dX4_addLadder_28 : decode cX4_addLadder 28 = .ok (.aload_n 0, 1) := by decide +kernel
theorem dX4_addLadder_29 : decode cX4_addLadder 29 = .ok (.getfield 42, 3) := by decide +kernel
theorem dX4_addLadder_32 : decode cX4_addLadder 32 = .ok (.iload_n 1, 1) := by decide +kernel
theorem dX4_addLadder_33 : decode cX4_addLadder 33 = .ok (.iastore, 1) := by decide +kernel
theorem dX4_addLadder_34 : decode cX4_addLadder 34 = .ok (.aload_n 0, 1) := by decide +kernel
theorem dX4_addLadder_35 : decode cX4_addLadder 35 = .ok (.dup, 1) := by decide +kernel
theorem dX4_addLadder_36 : decode cX4_addLadder 36 = .ok (.getfield 42, 3) := by decide +kernel
theorem dX4_addLadder_39 : decode cX4_addLadder 39 = .ok (.iconst 1, 1) := by decide +kernel
theorem dX4_addLadder_40 : decode cX4_addLadder 40 = .ok (.iadd, 1) := by decide +kernel
theorem dX4_addLadder_41 : decode cX4_addLadder 41 = .ok (.putfield 42, 3) := by decide +kernel
theorem dX4_addLadder_44 : decode cX4_addLadder 44 = .ok (.aload_n 0, 1) := by decide +kernel
theorem dX4_addLadder_45 : decode cX4_addLadder 45 = .ok (.getfield 42, 3) := by decide +kernel
theorem dX4_addLadder_48 : decode cX4_addLadder 48 = .ok (.iconst 1, 1) := by decide +kernel
theorem dX4_addLadder_49 : decode cX4_addLadder 49 = .ok (.isub, 1) := by decide +kernel
theorem dX4_addLadder_50 : decode cX4_addLadder 50 = .ok (.ireturn, 1) := by decide +kernel
set_option maxRecDepth 20000 in
theorem ggX4_turnScrew_X4_hasClock : GoodIn wsX4_turnScrew wsX4_hasClock := goodIn_r _ [7, 8, 12, 13, 14, 15, 16, 17, 18] (by decide +kernel) (by decide +kernel)
set_option maxRecDepth 20000 in
theorem gX4_turnScrew_X4_hasClock : GoodIn wsX4_turnScrew (wsV RX4 62 RX4 yX4_hasClock wsX4_hasClock) := goodIn_app (goodIn_of _ (by decide +kernel)) ggX4_turnScrew_X4_hasClock
set_option maxRecDepth 20000 in
theorem ggX4_turnScrew_X5_isWithin : GoodIn wsX4_turnScrew wsX5_isWithin := goodIn_r _ [11] (by decide +kernel) (by decide +kernel)
set_option maxRecDepth 20000 in
theorem gX4_turnScrew_X5_isWithin_n54 : GoodIn wsX4_turnScrew (wsX5_isWithin) := ggX4_turnScrew_X5_isWithin
theorem dX4_turnScrew_0 : decode cX4_turnScrew 0 = .ok (.aload_n 0, 1) := by decide +kernel
theorem dX4_turnScrew_1 : decode cX4_turnScrew 1 = .ok (.iload_n 1, 1) := by decide +kernel
theorem dX4_turnScrew_2 : decode cX4_turnScrew 2 = .ok (.invokevirtual 62, 3) := by decide +kernel
theorem dX4_turnScrew_5 : decode cX4_turnScrew 5 = .ok (.ifCond .ne 5, 3) := by decide +kernel
theorem dX4_turnScrew_8 : decode cX4_turnScrew 8 = .ok (.iconst (-1), 1) := by decide +kernel
theorem dX4_turnScrew_9 : decode cX4_turnScrew 9 = .ok (.ireturn, 1) := by decide +kernel
theorem dX4_turnScrew_10 : decode cX4_turnScrew 10 = .ok (.iload_n 2, 1) := by decide +kernel
theorem dX4_turnScrew_11 : decode cX4_turnScrew 11 = .ok (.bipush (-20), 2) := by decide +kernel
theorem dX4_turnScrew_13 : decode cX4_turnScrew 13 = .ok (.bipush 20, 2) := by decide +kernel
theorem dX4_turnScrew_15 : decode cX4_turnScrew 15 = .ok (.invokestatic 54, 3) := by decide +kernel
theorem dX4_turnScrew_18 : decode cX4_turnScrew 18 = .ok (.ifCond .ne 6, 3) := by decide +kernel
theorem dX4_turnScrew_21 : decode cX4_turnScrew 21 = .ok (.bipush (-2), 2) := by decide +kernel
theorem dX4_turnScrew_23 : decode cX4_turnScrew 23 = .ok (.ireturn, 1) := by decide +kernel
theorem dX4_turnScrew_24 : decode cX4_turnScrew 24 = .ok (.aload_n 0, 1) := by decide +kernel
theorem dX4_turnScrew_25 : decode cX4_turnScrew 25 = .ok (.getfield 17, 3) := by decide +kernel
theorem dX4_turnScrew_28 : decode cX4_turnScrew 28 = .ok (.iload_n 1, 1) := by decide +kernel
theorem dX4_turnScrew_29 : decode cX4_turnScrew 29 = .ok (.aaload, 1) := by decide +kernel
theorem dX4_turnScrew_30 : decode cX4_turnScrew 30 = .ok (.getfield 66, 3) := by decide +kernel
theorem dX4_turnScrew_33 : decode cX4_turnScrew 33 = .ok (.iload_n 2, 1) := by decide +kernel
theorem dX4_turnScrew_34 : decode cX4_turnScrew 34 = .ok (.iadd, 1) := by decide +kernel
theorem dX4_turnScrew_35 : decode cX4_turnScrew 35 = .ok (.istore_n 3, 1) := by decide +kernel
theorem dX4_turnScrew_36 : decode cX4_turnScrew 36 = .ok (.iload_n 3, 1) := by decide +kernel
theorem dX4_turnScrew_37 : decode cX4_turnScrew 37 = .ok (.bipush (-20), 2) := by decide +kernel
theorem dX4_turnScrew_39 : decode cX4_turnScrew 39 = .ok (.bipush 20, 2) := by decide +kernel
theorem dX4_turnScrew_41 : decode cX4_turnScrew 41 = .ok (.invokestatic 54, 3) := by decide +kernel
theorem dX4_turnScrew_44 : decode cX4_turnScrew 44 = .ok (.ifCond .ne 6, 3) := by decide +kernel
theorem dX4_turnScrew_47 : decode cX4_turnScrew 47 = .ok (.bipush (-5), 2) := by decide +kernel
theorem dX4_turnScrew_49 : decode cX4_turnScrew 49 = .ok (.ireturn, 1) := by decide +kernel
theorem dX4_turnScrew_50 : decode cX4_turnScrew 50 = .ok (.aload_n 0, 1) := by decide +kernel
theorem dX4_turnScrew_51 : decode cX4_turnScrew 51 = .ok (.getfield 17, 3) := by decide +kernel
theorem dX4_turnScrew_54 : decode cX4_turnScrew 54 = .ok (.iload_n 1, 1) := by decide +kernel
theorem dX4_turnScrew_55 : decode cX4_turnScrew 55 = .ok (.aaload, 1) := by decide +kernel
theorem dX4_turnScrew_56 : decode cX4_turnScrew 56 = .ok (.iload_n 3, 1) := by decide +kernel
theorem dX4_turnScrew_57 : decode cX4_turnScrew 57 = .ok (.putfield 66, 3) := by decide +kernel
theorem dX4_turnScrew_60 : decode cX4_turnScrew 60 = .ok (.iload_n 3, 1) := by decide +kernel
theorem dX4_turnScrew_61 : decode cX4_turnScrew 61 = .ok (.bipush 20, 2) := by decide +kernel
theorem dX4_turnScrew_63 : decode cX4_turnScrew 63 = .ok (.iadd, 1) := by decide +kernel
theorem dX4_turnScrew_64 : decode cX4_turnScrew 64 = .ok (.ireturn, 1) := by decide +kernel
set_option maxRecDepth 20000 in
theorem ggX4_passDays_X5_isWithin : GoodIn wsX4_passDays wsX5_isWithin := goodIn_r _ [7] (by decide +kernel) (by decide +kernel)
set_option maxRecDepth 20000 in
theorem gX4_passDays_X5_isWithin_n54 : GoodIn wsX4_passDays (wsX5_isWithin) := ggX4_passDays_X5_isWithin
set_option maxRecDepth 20000 in
theorem ggX4_passDays_X0_passDay : GoodIn wsX4_passDays wsX0_passDay := goodIn_r _ [12, 13, 14, 15, 16, 17, 18, 19, 11, 20, 21, 22, 36, 37, 38, 39, 40, 41, 42, 43] (by decide +kernel) (by decide +kernel)
set_option maxRecDepth 20000 in
theorem gX4_passDays_X0_passDay : GoodIn wsX4_passDays (wsV RX4 69 RX0 yX0_passDay wsX0_passDay) := goodIn_app (goodIn_of _ (by decide +kernel)) ggX4_passDays_X0_passDay
set_option maxRecDepth 20000 in
theorem ggX4_passDays_X4_numberThatGo : GoodIn wsX4_passDays wsX4_numberThatGo := goodIn_r _ [27, 2, 3, 28, 29, 30, 31, 32, 33, 34, 35, 36, 37, 38, 39, 40, 41, 42, 43] (by decide +kernel) (by decide +kernel)
set_option maxRecDepth 20000 in
theorem gX4_passDays_X4_numberThatGo : GoodIn wsX4_passDays (wsV RX4 73 RX4 yX4_numberThatGo wsX4_numberThatGo) := goodIn_app (goodIn_of _ (by decide +kernel)) ggX4_passDays_X4_numberThatGo
theorem dX4_passDays_0 : decode cX4_passDays 0 = .ok (.iload_n 1, 1) := by decide +kernel
theorem dX4_passDays_1 : decode cX4_passDays 1 = .ok (.iconst 1, 1) := by decide +kernel
theorem dX4_passDays_2 : decode cX4_passDays 2 = .ok (.bipush 99, 2) := by decide +kernel
theorem dX4_passDays_4 : decode cX4_passDays 4 = .ok (.invokestatic 54, 3) := by decide +kernel
theorem dX4_passDays_7 : decode cX4_passDays 7 = .ok (.ifCond .ne 6, 3) := by decide +kernel
theorem dX4_passDays_10 : decode cX4_passDays 10 = .ok (.bipush (-2), 2) := by decide +kernel
theorem dX4_passDays_12 : decode cX4_passDays 12 = .ok (.ireturn, 1) := by decide +kernel
theorem dX4_passDays_13 : decode cX4_passDays 13 = .ok (.aload_n 0, 1) := by decide +kernel
theorem dX4_passDays_14 : decode cX4_passDays 14 = .ok (.getfield 45, 3) := by decide +kernel
theorem dX4_passDays_17 : decode cX4_passDays 17 = .ok (.iload_n 1, 1) := by decide +kernel
theorem dX4_passDays_18 : decode cX4_passDays 18 = .ok (.iadd, 1) := by decide +kernel
theorem dX4_passDays_19 : decode cX4_passDays 19 = .ok (.sipush 9999, 3) := by decide +kernel
theorem dX4_passDays_22 : decode cX4_passDays 22 = .ok (.if_icmp .le 6, 3) := by decide +kernel
theorem dX4_passDays_25 : decode cX4_passDays 25 = .ok (.bipush (-5), 2) := by decide +kernel
theorem dX4_passDays_27 : decode cX4_passDays 27 = .ok (.ireturn, 1) := by decide +kernel
theorem dX4_passDays_28 : decode cX4_passDays 28 = .ok (.iconst 0, 1) := by decide +kernel
theorem dX4_passDays_29 : decode cX4_passDays 29 = .ok (.istore_n 2, 1) := by decide +kernel
theorem dX4_passDays_30 : decode cX4_passDays 30 = .ok (.iload_n 2, 1) := by decide +kernel
theorem dX4_passDays_31 : decode cX4_passDays 31 = .ok (.iload_n 1, 1) := by decide +kernel
theorem dX4_passDays_32 : decode cX4_passDays 32 = .ok (.if_icmp .ge 40, 3) := by decide +kernel
theorem dX4_passDays_35 : decode cX4_passDays 35 = .ok (.iconst 0, 1) := by decide +kernel
theorem dX4_passDays_36 : decode cX4_passDays 36 = .ok (.istore_n 3, 1) := by decide +kernel
theorem dX4_passDays_37 : decode cX4_passDays 37 = .ok (.iload_n 3, 1) := by decide +kernel
theorem dX4_passDays_38 : decode cX4_passDays 38 = .ok (.aload_n 0, 1) := by decide +kernel
theorem dX4_passDays_39 : decode cX4_passDays 39 = .ok (.getfield 34, 3) := by decide +kernel
theorem dX4_passDays_42 : decode cX4_passDays 42 = .ok (.if_icmp .ge 24, 3) := by decide +kernel
theorem dX4_passDays_45 : decode cX4_passDays 45 = .ok (.aload_n 0, 1) := by decide +kernel
theorem dX4_passDays_46 : decode cX4_passDays 46 = .ok (.getfield 17, 3) := by decide +kernel
theorem dX4_passDays_49 : decode cX4_passDays 49 = .ok (.iload_n 3, 1) := by decide +kernel
theorem dX4_passDays_50 : decode cX4_passDays 50 = .ok (.aaload, 1) := by decide +kernel
theorem dX4_passDays_51 : decode cX4_passDays 51 = .ok (.aload_n 0, 1) := by decide +kernel
theorem dX4_passDays_52 : decode cX4_passDays 52 = .ok (.getfield 9, 3) := by decide +kernel
theorem dX4_passDays_55 : decode cX4_passDays 55 = .ok (.iconst 1, 1) := by decide +kernel
theorem dX4_passDays_56 : decode cX4_passDays 56 = .ok (.iaload, 1) := by decide +kernel
theorem dX4_passDays_57 : decode cX4_passDays 57 = .ok (.invokevirtual 69, 3) := by decide +kernel
theorem dX4_passDays_60 : decode cX4_passDays 60 = .ok (.iinc 3 1, 3) := by decide +kernel
theorem dX4_passDays_63 : decode cX4_passDays 63 = .ok (.goto (-26), 3) := by decide +kernel
theorem dX4_passDays_66 : decode cX4_passDays 66 = .ok (.iinc 2 1, 3) := by decide +kernel
theorem dX4_passDays_69 : decode cX4_passDays 69 = .ok (.goto (-39), 3) := by decide +kernel
theorem dX4_passDays_72 : decode cX4_passDays 72 = .ok (.aload_n 0, 1) := by decide +kernel
theorem dX4_passDays_73 : decode cX4_passDays 73 = .ok (.dup, 1) := by decide +kernel
theorem dX4_passDays_74 : decode cX4_passDays 74 = .ok (.getfield 45, 3) := by decide +kernel
theorem dX4_passDays_77 : decode cX4_passDays 77 = .ok (.iload_n 1, 1) := by decide +kernel
theorem dX4_passDays_78 : decode cX4_passDays 78 = .ok (.iadd, 1) := by decide +kernel
theorem dX4_passDays_79 : decode cX4_passDays 79 = .ok (.putfield 45, 3) := by decide +kernel
theorem dX4_passDays_82 : decode cX4_passDays 82 = .ok (.aload_n 0, 1) := by decide +kernel
theorem dX4_passDays_83 : decode cX4_passDays 83 = .ok (.getfield 34, 3) := by decide +kernel
theorem dX4_passDays_86 : decode cX4_passDays 86 = .ok (.aload_n 0, 1) := by decide +kernel
theorem dX4_passDays_87 : decode cX4_passDays 87 = .ok (.invokevirtual 73, 3) := by decide +kernel
theorem dX4_passDays_90 : decode cX4_passDays 90 = .ok (.isub, 1) := by decide +kernel
theorem dX4_passDays_91 : decode cX4_passDays 91 = .ok (.ireturn, 1) := by decide +kernel
set_option maxRecDepth 20000 in
theorem ggX4_changeClocks_X4_numberThatGo : GoodIn wsX4_changeClocks wsX4_numberThatGo := goodIn_r _ [9, 1, 2, 3, 10, 11, 12, 13, 14, 15, 16, 17, 18, 19, 20, 21, 22, 23, 24] (by decide +kernel) (by decide +kernel)
set_option maxRecDepth 20000 in
theorem gX4_changeClocks_X4_numberThatGo : GoodIn wsX4_changeClocks (wsV RX4 73 RX4 yX4_numberThatGo wsX4_numberThatGo) := goodIn_app (goodIn_of _ (by decide +kernel)) ggX4_changeClocks_X4_numberThatGo
theorem dX4_changeClocks_0 : decode cX4_changeClocks 0 = .ok (.iload_n 1, 1) := by decide +kernel
theorem dX4_changeClocks_1 : decode cX4_changeClocks 1 = .ok (.ifCond .eq 11, 3) := by decide +kernel
theorem dX4_changeClocks_4 : decode cX4_changeClocks 4 = .ok (.iload_n 1, 1) := by decide +kernel
theorem dX4_changeClocks_5 : decode cX4_changeClocks 5 = .ok (.iconst 1, 1) := by decide +kernel
theorem dX4_changeClocks_6 : decode cX4_changeClocks 6 = .ok (.if_icmp .eq 6, 3) := by decide +kernel
theorem dX4_changeClocks_9 : decode cX4_changeClocks 9 = .ok (.bipush (-2), 2) := by decide +kernel
theorem dX4_changeClocks_11 : decode cX4_changeClocks 11 = .ok (.ireturn, 1) := by decide +kernel
theorem dX4_changeClocks_12 : decode cX4_changeClocks 12 = .ok (.iload_n 1, 1) := by decide +kernel
theorem dX4_changeClocks_13 : decode cX4_changeClocks 13 = .ok (.ifCond .ne 9, 3) := by decide +kernel
theorem dX4_changeClocks_16 : decode cX4_changeClocks 16 = .ok (.sipush 3600, 3) := by decide +kernel
theorem dX4_changeClocks_19 : decode cX4_changeClocks 19 = .ok (.goto 6, 3) := by decide +kernel
theorem dX4_changeClocks_22 : decode cX4_changeClocks 22 = .ok (.sipush (-3600), 3) := by decide +kernel
theorem dX4_changeClocks_25 : decode cX4_changeClocks 25 = .ok (.istore_n 2, 1) := by decide +kernel
theorem dX4_changeClocks_26 : decode cX4_changeClocks 26 = .ok (.iconst 0, 1) := by decide +kernel
theorem dX4_changeClocks_27 : decode cX4_changeClocks 27 = .ok (.istore_n 3, 1) := by decide +kernel
theorem dX4_changeClocks_28 : decode cX4_changeClocks 28 = .ok (.iload_n 3, 1) := by decide +kernel
theorem dX4_changeClocks_29 : decode cX4_changeClocks 29 = .ok (.aload_n 0, 1) := by decide +kernel
theorem dX4_changeClocks_30 : decode cX4_changeClocks 30 = .ok (.getfield 34, 3) := by decide +kernel
theorem dX4_changeClocks_33 : decode cX4_changeClocks 33 = .ok (.if_icmp .ge 36, 3) := by decide +kernel
theorem dX4_changeClocks_36 : decode cX4_changeClocks 36 = .ok (.aload_n 0, 1) := by decide +kernel
theorem dX4_changeClocks_37 : decode cX4_changeClocks 37 = .ok (.getfield 17, 3) := by decide +kernel
theorem dX4_changeClocks_40 : decode cX4_changeClocks 40 = .ok (.iload_n 3, 1) := by decide +kernel
theorem dX4_changeClocks_41 : decode cX4_changeClocks 41 = .ok (.aaload, 1) := by decide +kernel
theorem dX4_changeClocks_42 : decode cX4_changeClocks 42 = .ok (.getfield 77, 3) := by decide +kernel
theorem dX4_changeClocks_45 : decode cX4_changeClocks 45 = .ok (.ifCond .eq 18, 3) := by decide +kernel
theorem dX4_changeClocks_48 : decode cX4_changeClocks 48 = .ok (.aload_n 0, 1) := by decide +kernel
theorem dX4_changeClocks_49 : decode cX4_changeClocks 49 = .ok (.getfield 17, 3) := by decide +kernel
theorem dX4_changeClocks_52 : decode cX4_changeClocks 52 = .ok (.iload_n 3, 1) := by decide +kernel
theorem dX4_changeClocks_53 : decode cX4_changeClocks 53 = .ok (.aaload, 1) := by decide +kernel
theorem dX4_changeClocks_54 : decode cX4_changeClocks 54 = .ok (.dup, 1) := by decide +kernel
theorem dX4_changeClocks_55 : decode cX4_changeClocks 55 = .ok (.getfield 81, 3) := by decide +kernel
theorem dX4_changeClocks_58 : decode cX4_changeClocks 58 = .ok (.iload_n 2, 1) := by decide +kernel
theorem dX4_changeClocks_59 : decode cX4_changeClocks 59 = .ok (.iadd, 1) := by decide +kernel
theorem dX4_changeClocks_60 : decode cX4_changeClocks 60 = .ok (.putfield 81, 3) := by decide +kernel
theorem dX4_changeClocks_63 : decode cX4_changeClocks 63 = .ok (.iinc 3 1, 3) := by decide +kernel
theorem dX4_changeClocks_66 : decode cX4_changeClocks 66 = .ok (.goto (-38), 3) := by decide +kernel
theorem dX4_changeClocks_69 : decode cX4_changeClocks 69 = .ok (.aload_n 0, 1) := by decide +kernel
theorem dX4_changeClocks_70 : decode cX4_changeClocks 70 = .ok (.invokevirtual 73, 3) := by decide +kernel
theorem dX4_changeClocks_73 : decode cX4_changeClocks 73 = .ok (.ireturn, 1) := by decide +kernel
set_option maxRecDepth 20000 in
theorem ggX4_walkBeat_X4_minutesOf : GoodIn wsX4_walkBeat wsX4_minutesOf := goodIn_r _ [9, 1, 2, 10, 11, 12, 13, 14, 3, 15, 16, 17, 18, 19, 20, 21, 22, 23, 24, 8, 25, 26, 27, 28, 29, 30, 31, 32, 33, 34, 35, 36, 37, 62, 63, 64, 65, 66, 67, 68, 69, 70, 71, 72, 73, 74, 75, 76, 77, 78] (by decide +kernel) (by decide +kernel)
set_option maxRecDepth 20000 in
theorem gX4_walkBeat_X4_minutesOf : GoodIn wsX4_walkBeat (wsV RX4 84 RX4 yX4_minutesOf wsX4_minutesOf) := goodIn_app (goodIn_of _ (by decide +kernel)) ggX4_walkBeat_X4_minutesOf
set_option maxRecDepth 20000 in
theorem ggX4_walkBeat_X3_at : GoodIn wsX4_walkBeat wsX3_at := goodIn_r _ [19, 20, 21, 62, 63] (by decide +kernel) (by decide +kernel)
set_option maxRecDepth 20000 in
theorem gX4_walkBeat_X3_at : GoodIn wsX4_walkBeat (wsV RX4 93 RX3 yX3_at wsX3_at) := goodIn_app (goodIn_of _ (by decide +kernel)) ggX4_walkBeat_X3_at
set_option maxRecDepth 20000 in
theorem ggX4_walkBeat_X4_hasClock : GoodIn wsX4_walkBeat wsX4_hasClock := goodIn_r _ [25, 26, 64, 65, 66, 67, 68, 69, 70] (by decide +kernel) (by decide +kernel)
set_option maxRecDepth 20000 in
theorem gX4_walkBeat_X4_hasClock : GoodIn wsX4_walkBeat (wsV RX4 62 RX4 yX4_hasClock wsX4_hasClock) := goodIn_app (goodIn_of _ (by decide +kernel)) ggX4_walkBeat_X4_hasClock
set_option maxRecDepth 20000 in
theorem ggX4_walkBeat_X4_canBeWound : GoodIn wsX4_walkBeat wsX4_canBeWound := goodIn_r _ [37, 31, 27, 28, 29, 8, 30, 32, 33, 71, 72, 73, 74, 75, 76, 77, 78, 64, 65, 66, 67, 68, 69, 70] (by decide +kernel) (by decide +kernel)
set_option maxRecDepth 20000 in
theorem gX4_walkBeat_X4_canBeWound : GoodIn wsX4_walkBeat (wsV RX4 97 RX4 yX4_canBeWound wsX4_canBeWound) := goodIn_app (goodIn_of _ (by decide +kernel)) ggX4_walkBeat_X4_canBeWound
set_option maxRecDepth 20000 in
theorem ggX4_walkBeat_X0_windAndSet : GoodIn wsX4_walkBeat wsX0_windAndSet := goodIn_r _ [42, 43, 44, 45, 46, 47, 48, 49, 41, 50, 51, 12, 13, 14, 52, 53, 54, 55, 56, 57, 58, 59, 60, 61, 71, 72, 73, 74, 75, 76, 77, 78] (by decide +kernel) (by decide +kernel)
set_option maxRecDepth 20000 in
theorem gX4_walkBeat_X0_windAndSet : GoodIn wsX4_walkBeat (wsV RX4 101 RX0 yX0_windAndSet wsX0_windAndSet) := goodIn_app (goodIn_of _ (by decide +kernel)) ggX4_walkBeat_X0_windAndSet
theorem dX4_walkBeat_0 : decode cX4_walkBeat 0 = .ok (.aload_n 0, 1) := by decide +kernel
theorem dX4_walkBeat_1 : decode cX4_walkBeat 1 = .ok (.aload_n 1, 1) := by decide +kernel
theorem dX4_walkBeat_2 : decode cX4_walkBeat 2 = .ok (.invokevirtual 84, 3) := by decide +kernel
theorem dX4_walkBeat_5 : decode cX4_walkBeat 5 = .ok (.istore_n 2, 1) := by decide +kernel
theorem dX4_walkBeat_6 : decode cX4_walkBeat 6 = .ok (.iload_n 2, 1) := by decide +kernel
theorem dX4_walkBeat_7 : decode cX4_walkBeat 7 = .ok (.ifCond .ge 5, 3) := by decide +kernel
theorem dX4_walkBeat_10 : decode cX4_walkBeat 10 = .ok (.iload_n 2, 1) := by decide +kernel
theorem dX4_walkBeat_11 : decode cX4_walkBeat 11 = .ok (.ireturn, 1) := by decide +kernel
theorem dX4_walkBeat_12 : decode cX4_walkBeat 12 = .ok (.iconst 0, 1) := by decide +kernel
theorem dX4_walkBeat_13 : decode cX4_walkBeat 13 = .ok (.istore_n 3, 1) := by decide +kernel
theorem dX4_walkBeat_14 : decode cX4_walkBeat 14 = .ok (.iload_n 3, 1) := by decide +kernel
theorem dX4_walkBeat_15 : decode cX4_walkBeat 15 = .ok (.aload_n 1, 1) := by decide +kernel
theorem dX4_walkBeat_16 : decode cX4_walkBeat 16 = .ok (.getfield 88, 3) := by decide +kernel
theorem dX4_walkBeat_19 : decode cX4_walkBeat 19 = .ok (.if_icmp .ge 55, 3) := by decide +kernel
theorem dX4_walkBeat_22 : decode cX4_walkBeat 22 = .ok (.aload_n 1, 1) := by decide +kernel
theorem dX4_walkBeat_23 : decode cX4_walkBeat 23 = .ok (.iload_n 3, 1) := by decide +kernel
theorem dX4_walkBeat_24 : decode cX4_walkBeat 24 = .ok (.invokevirtual 93, 3) := by decide +kernel
theorem dX4_walkBeat_27 : decode cX4_walkBeat 27 = .ok (.istore 4, 2) := by decide +kernel
theorem dX4_walkBeat_29 : decode cX4_walkBeat 29 = .ok (.aload_n 0, 1) := by decide +kernel
theorem dX4_walkBeat_30 : decode cX4_walkBeat 30 = .ok (.iload 4, 2) := by decide +kernel
theorem dX4_walkBeat_32 : decode cX4_walkBeat 32 = .ok (.invokevirtual 62, 3) := by decide +kernel
theorem dX4_walkBeat_35 : decode cX4_walkBeat 35 = .ok (.ifCond .eq 33, 3) := by decide +kernel
theorem dX4_walkBeat_38 : decode cX4_walkBeat 38 = .ok (.aload_n 0, 1) := by decide +kernel
theorem dX4_walkBeat_39 : decode cX4_walkBeat 39 = .ok (.aload_n 0, 1) := by decide +kernel
theorem dX4_walkBeat_40 : decode cX4_walkBeat 40 = .ok (.getfield 17, 3) := by decide +kernel
theorem dX4_walkBeat_43 : decode cX4_walkBeat 43 = .ok (.iload 4, 2) := by decide +kernel
theorem dX4_walkBeat_45 : decode cX4_walkBeat 45 = .ok (.aaload, 1) := by decide +kernel
theorem dX4_walkBeat_46 : decode cX4_walkBeat 46 = .ok (.invokevirtual 97, 3) := by decide +kernel
theorem dX4_walkBeat_49 : decode cX4_walkBeat 49 = .ok (.ifCond .eq 19, 3) := by decide +kernel
theorem dX4_walkBeat_52 : decode cX4_walkBeat 52 = .ok (.aload_n 0, 1) := by decide +kernel
theorem dX4_walkBeat_53 : decode cX4_walkBeat 53 = .ok (.getfield 17, 3) := by decide +kernel
theorem dX4_walkBeat_56 : decode cX4_walkBeat 56 = .ok (.iload 4, 2) := by decide +kernel
theorem dX4_walkBeat_58 : decode cX4_walkBeat 58 = .ok (.aaload, 1) := by decide +kernel
theorem dX4_walkBeat_59 : decode cX4_walkBeat 59 = .ok (.aload_n 0, 1) := by decide +kernel
theorem dX4_walkBeat_60 : decode cX4_walkBeat 60 = .ok (.getfield 9, 3) := by decide +kernel
theorem dX4_walkBeat_63 : decode cX4_walkBeat 63 = .ok (.iconst 0, 1) := by decide +kernel
theorem dX4_walkBeat_64 : decode cX4_walkBeat 64 = .ok (.iaload, 1) := by decide +kernel
theorem dX4_walkBeat_65 : decode cX4_walkBeat 65 = .ok (.invokevirtual 101, 3) := by decide +kernel
theorem dX4_walkBeat_68 : decode cX4_walkBeat 68 = .ok (.iinc 3 1, 3) := by decide +kernel
theorem dX4_walkBeat_71 : decode cX4_walkBeat 71 = .ok (.goto (-57), 3) := by decide +kernel
theorem dX4_walkBeat_74 : decode cX4_walkBeat 74 = .ok (.aload_n 0, 1) := by decide +kernel
theorem dX4_walkBeat_75 : decode cX4_walkBeat 75 = .ok (.dup, 1) := by decide +kernel
theorem dX4_walkBeat_76 : decode cX4_walkBeat 76 = .ok (.getfield 48, 3) := by decide +kernel
theorem dX4_walkBeat_79 : decode cX4_walkBeat 79 = .ok (.iload_n 2, 1) := by decide +kernel
theorem dX4_walkBeat_80 : decode cX4_walkBeat 80 = .ok (.iadd, 1) := by decide +kernel
theorem dX4_walkBeat_81 : decode cX4_walkBeat 81 = .ok (.putfield 48, 3) := by decide +kernel
theorem dX4_walkBeat_84 : decode cX4_walkBeat 84 = .ok (.iload_n 2, 1) := by decide +kernel
theorem dX4_walkBeat_85 : decode cX4_walkBeat 85 = .ok (.ireturn, 1) := by decide +kernel
set_option maxRecDepth 20000 in
theorem ggX4_minutesOf_X3_at : GoodIn wsX4_minutesOf wsX3_at := goodIn_r _ [13, 14, 15, 33, 34] (by decide +kernel) (by decide +kernel)
set_option maxRecDepth 20000 in
theorem gX4_minutesOf_X3_at : GoodIn wsX4_minutesOf (wsV RX4 93 RX3 yX3_at wsX3_at) := goodIn_app (goodIn_of _ (by decide +kernel)) ggX4_minutesOf_X3_at
set_option maxRecDepth 20000 in
theorem ggX4_minutesOf_X4_hasClock : GoodIn wsX4_minutesOf wsX4_hasClock := goodIn_r _ [20, 21, 35, 36, 37, 38, 39, 40, 41] (by decide +kernel) (by decide +kernel)
set_option maxRecDepth 20000 in
theorem gX4_minutesOf_X4_hasClock : GoodIn wsX4_minutesOf (wsV RX4 62 RX4 yX4_hasClock wsX4_hasClock) := goodIn_app (goodIn_of _ (by decide +kernel)) ggX4_minutesOf_X4_hasClock
set_option maxRecDepth 20000 in
theorem ggX4_minutesOf_X4_ladderNeeded : GoodIn wsX4_minutesOf wsX4_ladderNeeded := goodIn_r _ [25, 26, 27, 28, 42, 43, 44, 45, 46, 47, 48, 49, 35, 36, 37, 38, 39, 40, 41] (by decide +kernel) (by decide +kernel)
set_option maxRecDepth 20000 in
theorem gX4_minutesOf_X4_ladderNeeded : GoodIn wsX4_minutesOf (wsV RX4 112 RX4 yX4_ladderNeeded wsX4_ladderNeeded) := goodIn_app (goodIn_of _ (by decide +kernel)) ggX4_minutesOf_X4_ladderNeeded
set_option maxRecDepth 20000 in
theorem ggX4_minutesOf_X4_canBeWound : GoodIn wsX4_minutesOf wsX4_canBeWound := goodIn_r _ [32, 26, 22, 23, 24, 19, 25, 27, 28, 42, 43, 44, 45, 46, 47, 48, 49, 35, 36, 37, 38, 39, 40, 41] (by decide +kernel) (by decide +kernel)
set_option maxRecDepth 20000 in
theorem gX4_minutesOf_X4_canBeWound : GoodIn wsX4_minutesOf (wsV RX4 97 RX4 yX4_canBeWound wsX4_canBeWound) := goodIn_app (goodIn_of _ (by decide +kernel)) ggX4_minutesOf_X4_canBeWound
theorem dX4_minutesOf_0 : decode cX4_minutesOf 0 = .ok (.iconst 0, 1) := by decide +kernel
theorem dX4_minutesOf_1 : decode cX4_minutesOf 1 = .ok (.istore_n 2, 1) := by decide +kernel
theorem dX4_minutesOf_2 : decode cX4_minutesOf 2 = .ok (.bipush (-6), 2) := by decide +kernel
theorem dX4_minutesOf_4 : decode cX4_minutesOf 4 = .ok (.istore_n 3, 1) := by decide +kernel
theorem dX4_minutesOf_5 : decode cX4_minutesOf 5 = .ok (.iconst 0, 1) := by decide +kernel
theorem dX4_minutesOf_6 : decode cX4_minutesOf 6 = .ok (.istore 4, 2) := by decide +kernel
theorem dX4_minutesOf_8 : decode cX4_minutesOf 8 = .ok (.iconst 0, 1) := by decide +kernel
theorem dX4_minutesOf_9 : decode cX4_minutesOf 9 = .ok (.istore 5, 2) := by decide +kernel
theorem dX4_minutesOf_11 : decode cX4_minutesOf 11 = .ok (.iconst 0, 1) := by decide +kernel
theorem dX4_minutesOf_12 : decode cX4_minutesOf 12 = .ok (.istore 6, 2) := by decide +kernel
theorem dX4_minutesOf_14 : decode cX4_minutesOf 14 = .ok (.iload 6, 2) := by decide +kernel
theorem dX4_minutesOf_16 : decode cX4_minutesOf 16 = .ok (.aload_n 1, 1) := by decide +kernel
theorem dX4_minutesOf_17 : decode cX4_minutesOf 17 = .ok (.getfield 88, 3) := by decide +kernel
theorem dX4_minutesOf_20 : decode cX4_minutesOf 20 = .ok (.if_icmp .ge 102, 3) := by decide +kernel
theorem dX4_minutesOf_23 : decode cX4_minutesOf 23 = .ok (.aload_n 1, 1) := by decide +kernel
theorem dX4_minutesOf_24 : decode cX4_minutesOf 24 = .ok (.iload 6, 2) := by decide +kernel
theorem dX4_minutesOf_26 : decode cX4_minutesOf 26 = .ok (.invokevirtual 93, 3) := by decide +kernel
theorem dX4_minutesOf_29 : decode cX4_minutesOf 29 = .ok (.istore 7, 2) := by decide +kernel
theorem dX4_minutesOf_31 : decode cX4_minutesOf 31 = .ok (.aload_n 0, 1) := by decide +kernel
theorem dX4_minutesOf_32 : decode cX4_minutesOf 32 = .ok (.iload 7, 2) := by decide +kernel
theorem dX4_minutesOf_34 : decode cX4_minutesOf 34 = .ok (.invokevirtual 62, 3) := by decide +kernel
theorem dX4_minutesOf_37 : decode cX4_minutesOf 37 = .ok (.ifCond .ne 5, 3) := by decide +kernel
theorem dX4_minutesOf_40 : decode cX4_minutesOf 40 = .ok (.iconst (-1), 1) := by decide +kernel
theorem dX4_minutesOf_41 : decode cX4_minutesOf 41 = .ok (.ireturn, 1) := by decide +kernel
theorem dX4_minutesOf_42 : decode cX4_minutesOf 42 = .ok (.aload_n 0, 1) := by decide +kernel
theorem dX4_minutesOf_43 : decode cX4_minutesOf 43 = .ok (.getfield 17, 3) := by decide +kernel
theorem dX4_minutesOf_46 : decode cX4_minutesOf 46 = .ok (.iload 7, 2) := by decide +kernel
theorem dX4_minutesOf_48 : decode cX4_minutesOf 48 = .ok (.aaload, 1) := by decide +kernel
theorem dX4_minutesOf_49 : decode cX4_minutesOf 49 = .ok (.astore 8, 2) := by decide +kernel
theorem dX4_minutesOf_51 : decode cX4_minutesOf 51 = .ok (.iload 4, 2) := by decide +kernel
theorem dX4_minutesOf_53 : decode cX4_minutesOf 53 = .ok (.aload 8, 2) := by decide +kernel
theorem dX4_minutesOf_55 : decode cX4_minutesOf 55 = .ok (.getfield 104, 3) := by decide +kernel
theorem dX4_minutesOf_58 : decode cX4_minutesOf 58 = .ok (.iload_n 2, 1) := by decide +kernel
theorem dX4_minutesOf_59 : decode cX4_minutesOf 59 = .ok (.isub, 1) := by decide +kernel
theorem dX4_minutesOf_60 : decode cX4_minutesOf 60 = .ok (.invokestatic 107, 3) := by decide +kernel
theorem dX4_minutesOf_63 : decode cX4_minutesOf 63 = .ok (.iadd, 1) := by decide +kernel
theorem dX4_minutesOf_64 : decode cX4_minutesOf 64 = .ok (.istore 4, 2) := by decide +kernel
theorem dX4_minutesOf_66 : decode cX4_minutesOf 66 = .ok (.aload 8, 2) := by decide +kernel
theorem dX4_minutesOf_68 : decode cX4_minutesOf 68 = .ok (.getfield 104, 3) := by decide +kernel
theorem dX4_minutesOf_71 : decode cX4_minutesOf 71 = .ok (.istore_n 2, 1) := by decide +kernel
theorem dX4_minutesOf_72 : decode cX4_minutesOf 72 = .ok (.aload_n 0, 1) := by decide +kernel
theorem dX4_minutesOf_73 : decode cX4_minutesOf 73 = .ok (.aload 8, 2) := by decide +kernel
theorem dX4_minutesOf_75 : decode cX4_minutesOf 75 = .ok (.invokevirtual 112, 3) := by decide +kernel
theorem dX4_minutesOf_78 : decode cX4_minutesOf 78 = .ok (.istore 9, 2) := by decide +kernel
theorem dX4_minutesOf_80 : decode cX4_minutesOf 80 = .ok (.iload 9, 2) := by decide +kernel
theorem dX4_minutesOf_82 : decode cX4_minutesOf 82 = .ok (.bipush (-6), 2) := by decide +kernel
theorem dX4_minutesOf_84 : decode cX4_minutesOf 84 = .ok (.if_icmp .eq 20, 3) := by decide +kernel
theorem dX4_minutesOf_87 : decode cX4_minutesOf 87 = .ok (.iload 9, 2) := by decide +kernel
theorem dX4_minutesOf_89 : decode cX4_minutesOf 89 = .ok (.iload_n 3, 1) := by decide +kernel
theorem dX4_minutesOf_90 : decode cX4_minutesOf 90 = .ok (.if_icmp .eq 14, 3) := by decide +kernel
theorem dX4_minutesOf_93 : decode cX4_minutesOf 93 = .ok (.iload 4, 2) := by decide +kernel
theorem dX4_minutesOf_95 : decode cX4_minutesOf 95 = .ok (.iconst 2, 1) := by decide +kernel
theorem dX4_minutesOf_96 : decode cX4_minutesOf 96 = .ok (.iload_n 2, 1) := by decide +kernel
theorem dX4_minutesOf_97 : decode cX4_minutesOf 97 = .ok (.imul, 1) := by decide +kernel
theorem dX4_minutesOf_98 : decode cX4_minutesOf 98 = .ok (.iadd, 1) := by decide +kernel
theorem dX4_minutesOf_99 : decode cX4_minutesOf 99 = .ok (.istore 4, 2) := by decide +kernel
theorem dX4_minutesOf_101 : decode cX4_minutesOf 101 = .ok (.iload 9, 2) := by decide +kernel
theorem dX4_minutesOf_103 : decode cX4_minutesOf 103 = .ok (.istore_n 3, 1) := by decide +kernel
theorem dX4_minutesOf_104 : decode cX4_minutesOf 104 = .ok (.aload_n 0, 1) := by decide +kernel
theorem dX4_minutesOf_105 : decode cX4_minutesOf 105 = .ok (.aload 8, 2) := by decide +kernel
theorem dX4_minutesOf_107 : decode cX4_minutesOf 107 = .ok (.invokevirtual 97, 3) := by decide +kernel
theorem dX4_minutesOf_110 : decode cX4_minutesOf 110 = .ok (.ifCond .eq 6, 3) := by decide +kernel
theorem dX4_minutesOf_113 : decode cX4_minutesOf 113 = .ok (.iinc 5 1, 3) := by decide +kernel
theorem dX4_minutesOf_116 : decode cX4_minutesOf 116 = .ok (.iinc 6 1, 3) := by decide +kernel
theorem dX4_minutesOf_119 : decode cX4_minutesOf 119 = .ok (.goto (-105), 3) := by decide +kernel
theorem dX4_minutesOf_122 : decode cX4_minutesOf 122 = .ok (.iload 4, 2) := by decide +kernel
theorem dX4_minutesOf_124 : decode cX4_minutesOf 124 = .ok (.iload_n 2, 1) := by decide +kernel
theorem dX4_minutesOf_125 : decode cX4_minutesOf 125 = .ok (.iadd, 1) := by decide +kernel
theorem dX4_minutesOf_126 : decode cX4_minutesOf 126 = .ok (.aload_n 0, 1) := by decide +kernel
theorem dX4_minutesOf_127 : decode cX4_minutesOf 127 = .ok (.getfield 9, 3) := by decide +kernel
theorem dX4_minutesOf_130 : decode cX4_minutesOf 130 = .ok (.iconst 2, 1) := by decide +kernel
theorem dX4_minutesOf_131 : decode cX4_minutesOf 131 = .ok (.iaload, 1) := by decide +kernel
theorem dX4_minutesOf_132 : decode cX4_minutesOf 132 = .ok (.imul, 1) := by decide +kernel
theorem dX4_minutesOf_133 : decode cX4_minutesOf 133 = .ok (.iload 5, 2) := by decide +kernel
theorem dX4_minutesOf_135 : decode cX4_minutesOf 135 = .ok (.aload_n 0, 1) := by decide +kernel
theorem dX4_minutesOf_136 : decode cX4_minutesOf 136 = .ok (.getfield 9, 3) := by decide +kernel
theorem dX4_minutesOf_139 : decode cX4_minutesOf 139 = .ok (.iconst 3, 1) := by decide +kernel
theorem dX4_minutesOf_140 : decode cX4_minutesOf 140 = .ok (.iaload, 1) := by decide +kernel
theorem dX4_minutesOf_141 : decode cX4_minutesOf 141 = .ok (.imul, 1) := by decide +kernel
theorem dX4_minutesOf_142 : decode cX4_minutesOf 142 = .ok (.iadd, 1) := by decide +kernel
theorem dX4_minutesOf_143 : decode cX4_minutesOf 143 = .ok (.ireturn, 1) := by decide +kernel
theorem dX4_ladderNeeded_0 : decode cX4_ladderNeeded 0 = .ok (.aload_n 1, 1) := by decide +kernel
theorem dX4_ladderNeeded_1 : decode cX4_ladderNeeded 1 = .ok (.getfield 116, 3) := by decide +kernel
theorem dX4_ladderNeeded_4 : decode cX4_ladderNeeded 4 = .ok (.ifCond .ne 6, 3) := by decide +kernel
theorem dX4_ladderNeeded_7 : decode cX4_ladderNeeded 7 = .ok (.bipush (-6), 2) := by decide +kernel
theorem dX4_ladderNeeded_9 : decode cX4_ladderNeeded 9 = .ok (.ireturn, 1) := by decide +kernel
theorem dX4_ladderNeeded_10 : decode cX4_ladderNeeded 10 = .ok (.bipush (-6), 2) := by decide +kernel
theorem dX4_ladderNeeded_12 : decode cX4_ladderNeeded 12 = .ok (.istore_n 2, 1) := by decide +kernel
theorem dX4_ladderNeeded_13 : decode cX4_ladderNeeded 13 = .ok (.bipush 31, 2) := by decide +kernel
theorem dX4_ladderNeeded_15 : decode cX4_ladderNeeded 15 = .ok (.istore_n 3, 1) := by decide +kernel
theorem dX4_ladderNeeded_16 : decode cX4_ladderNeeded 16 = .ok (.iconst 0, 1) := by decide +kernel
theorem dX4_ladderNeeded_17 : decode cX4_ladderNeeded 17 = .ok (.istore 4, 2) := by decide +kernel
theorem dX4_ladderNeeded_19 : decode cX4_ladderNeeded 19 = .ok (.iload 4, 2) := by decide +kernel
theorem dX4_ladderNeeded_21 : decode cX4_ladderNeeded 21 = .ok (.aload_n 0, 1) := by decide +kernel
theorem dX4_ladderNeeded_22 : decode cX4_ladderNeeded 22 = .ok (.getfield 42, 3) := by decide +kernel
theorem dX4_ladderNeeded_25 : decode cX4_ladderNeeded 25 = .ok (.if_icmp .ge 45, 3) := by decide +kernel
theorem dX4_ladderNeeded_28 : decode cX4_ladderNeeded 28 = .ok (.aload_n 0, 1) := by decide +kernel
theorem dX4_ladderNeeded_29 : decode cX4_ladderNeeded 29 = .ok (.getfield 21, 3) := by decide +kernel
theorem dX4_ladderNeeded_32 : decode cX4_ladderNeeded 32 = .ok (.iload 4, 2) := by decide +kernel
theorem dX4_ladderNeeded_34 : decode cX4_ladderNeeded 34 = .ok (.iaload, 1) := by decide +kernel
theorem dX4_ladderNeeded_35 : decode cX4_ladderNeeded 35 = .ok (.aload_n 1, 1) := by decide +kernel
theorem dX4_ladderNeeded_36 : decode cX4_ladderNeeded 36 = .ok (.getfield 116, 3) := by decide +kernel
theorem dX4_ladderNeeded_39 : decode cX4_ladderNeeded 39 = .ok (.if_icmp .lt 25, 3) := by decide +kernel
theorem dX4_ladderNeeded_42 : decode cX4_ladderNeeded 42 = .ok (.aload_n 0, 1) := by decide +kernel
theorem dX4_ladderNeeded_43 : decode cX4_ladderNeeded 43 = .ok (.getfield 21, 3) := by decide +kernel
theorem dX4_ladderNeeded_46 : decode cX4_ladderNeeded 46 = .ok (.iload 4, 2) := by decide +kernel
theorem dX4_ladderNeeded_48 : decode cX4_ladderNeeded 48 = .ok (.iaload, 1) := by decide +kernel
theorem dX4_ladderNeeded_49 : decode cX4_ladderNeeded 49 = .ok (.iload_n 3, 1) := by decide +kernel
theorem dX4_ladderNeeded_50 : decode cX4_ladderNeeded 50 = .ok (.if_icmp .ge 14, 3) := by decide +kernel
theorem dX4_ladderNeeded_53 : decode cX4_ladderNeeded 53 = .ok (.iload 4, 2) := by decide +kernel
theorem dX4_ladderNeeded_55 : decode cX4_ladderNeeded 55 = .ok (.istore_n 2, 1) := by decide +kernel
theorem dX4_ladderNeeded_56 : decode cX4_ladderNeeded 56 = .ok (.aload_n 0, 1) := by decide +kernel
theorem dX4_ladderNeeded_57 : decode cX4_ladderNeeded 57 = .ok (.getfield 21, 3) := by decide +kernel
theorem dX4_ladderNeeded_60 : decode cX4_ladderNeeded 60 = .ok (.iload 4, 2) := by decide +kernel
theorem dX4_ladderNeeded_62 : decode cX4_ladderNeeded 62 = .ok (.iaload, 1) := by decide +kernel
theorem dX4_ladderNeeded_63 : decode cX4_ladderNeeded 63 = .ok (.istore_n 3, 1) := by decide +kernel
theorem dX4_ladderNeeded_64 : decode cX4_ladderNeeded 64 = .ok (.iinc 4 1, 3) := by decide +kernel
theorem dX4_ladderNeeded_67 : decode cX4_ladderNeeded 67 = .ok (.goto (-48), 3) := by decide +kernel
theorem dX4_ladderNeeded_70 : decode cX4_ladderNeeded 70 = .ok (.iload_n 2, 1) := by decide +kernel
theorem dX4_ladderNeeded_71 : decode cX4_ladderNeeded 71 = .ok (.ireturn, 1) := by decide +kernel
set_option maxRecDepth 20000 in
theorem ggX4_canBeWound_X4_ladderNeeded : GoodIn wsX4_canBeWound wsX4_ladderNeeded := goodIn_r _ [6, 1, 7, 8, 9, 10, 11, 12, 13, 14, 15, 16, 17, 18, 19, 20, 21, 22, 23] (by decide +kernel) (by decide +kernel)
set_option maxRecDepth 20000 in
theorem gX4_canBeWound_X4_ladderNeeded : GoodIn wsX4_canBeWound (wsV RX4 112 RX4 yX4_ladderNeeded wsX4_ladderNeeded) := goodIn_app (goodIn_of _ (by decide +kernel)) ggX4_canBeWound_X4_ladderNeeded
theorem dX4_canBeWound_0 : decode cX4_canBeWound 0 = .ok (.aload_n 1, 1) := by decide +kernel
theorem dX4_canBeWound_1 : decode cX4_canBeWound 1 = .ok (.getfield 116, 3) := by decide +kernel
theorem dX4_canBeWound_4 : decode cX4_canBeWound 4 = .ok (.ifCond .eq 13, 3) := by decide +kernel
theorem dX4_canBeWound_7 : decode cX4_canBeWound 7 = .ok (.aload_n 0, 1) := by decide +kernel
theorem dX4_canBeWound_8 : decode cX4_canBeWound 8 = .ok (.aload_n 1, 1) := by decide +kernel
theorem dX4_canBeWound_9 : decode cX4_canBeWound 9 = .ok (.invokevirtual 112, 3) := by decide +kernel
theorem dX4_canBeWound_12 : decode cX4_canBeWound 12 = .ok (.bipush (-6), 2) := by decide +kernel
theorem dX4_canBeWound_14 : decode cX4_canBeWound 14 = .ok (.if_icmp .eq 7, 3) := by decide +kernel
theorem dX4_canBeWound_17 : decode cX4_canBeWound 17 = .ok (.iconst 1, 1) := by decide +kernel
theorem dX4_canBeWound_18 : decode cX4_canBeWound 18 = .ok (.goto 4, 3) := by decide +kernel
theorem dX4_canBeWound_21 : decode cX4_canBeWound 21 = .ok (.iconst 0, 1) := by decide +kernel
theorem dX4_canBeWound_22 : decode cX4_canBeWound 22 = .ok (.ireturn, 1) := by decide +kernel
theorem dX4_numberThatGo_0 : decode cX4_numberThatGo 0 = .ok (.iconst 0, 1) := by decide +kernel
theorem dX4_numberThatGo_1 : decode cX4_numberThatGo 1 = .ok (.istore_n 1, 1) := by decide +kernel
theorem dX4_numberThatGo_2 : decode cX4_numberThatGo 2 = .ok (.iconst 0, 1) := by decide +kernel
theorem dX4_numberThatGo_3 : decode cX4_numberThatGo 3 = .ok (.istore_n 2, 1) := by decide +kernel
theorem dX4_numberThatGo_4 : decode cX4_numberThatGo 4 = .ok (.iload_n 2, 1) := by decide +kernel
theorem dX4_numberThatGo_5 : decode cX4_numberThatGo 5 = .ok (.aload_n 0, 1) := by decide +kernel
theorem dX4_numberThatGo_6 : decode cX4_numberThatGo 6 = .ok (.getfield 34, 3) := by decide +kernel
theorem dX4_numberThatGo_9 : decode cX4_numberThatGo 9 = .ok (.if_icmp .ge 24, 3) := by decide +kernel
theorem dX4_numberThatGo_12 : decode cX4_numberThatGo 12 = .ok (.aload_n 0, 1) := by decide +kernel
theorem dX4_numberThatGo_13 : decode cX4_numberThatGo 13 = .ok (.getfield 17, 3) := by decide +kernel
theorem dX4_numberThatGo_16 : decode cX4_numberThatGo 16 = .ok (.iload_n 2, 1) := by decide +kernel
theorem dX4_numberThatGo_17 : decode cX4_numberThatGo 17 = .ok (.aaload, 1) := by decide +kernel
theorem dX4_numberThatGo_18 : decode cX4_numberThatGo 18 = .ok (.getfield 77, 3) := by decide +kernel
theorem dX4_numberThatGo_21 : decode cX4_numberThatGo 21 = .ok (.ifCond .eq 6, 3) := by decide +kernel
theorem dX4_numberThatGo_24 : decode cX4_numberThatGo 24 = .ok (.iinc 1 1, 3) := by decide +kernel
theorem dX4_numberThatGo_27 : decode cX4_numberThatGo 27 = .ok (.iinc 2 1, 3) := by decide +kernel
theorem dX4_numberThatGo_30 : decode cX4_numberThatGo 30 = .ok (.goto (-26), 3) := by decide +kernel
theorem dX4_numberThatGo_33 : decode cX4_numberThatGo 33 = .ok (.iload_n 1, 1) := by decide +kernel
theorem dX4_numberThatGo_34 : decode cX4_numberThatGo 34 = .ok (.ireturn, 1) := by decide +kernel
theorem dX4_setOfStill_0 : decode cX4_setOfStill 0 = .ok (.iconst 0, 1) := by decide +kernel
theorem dX4_setOfStill_1 : decode cX4_setOfStill 1 = .ok (.istore_n 1, 1) := by decide +kernel
theorem dX4_setOfStill_2 : decode cX4_setOfStill 2 = .ok (.iconst 0, 1) := by decide +kernel
theorem dX4_setOfStill_3 : decode cX4_setOfStill 3 = .ok (.istore_n 2, 1) := by decide +kernel
theorem dX4_setOfStill_4 : decode cX4_setOfStill 4 = .ok (.iload_n 2, 1) := by decide +kernel
theorem dX4_setOfStill_5 : decode cX4_setOfStill 5 = .ok (.aload_n 0, 1) := by decide +kernel
theorem dX4_setOfStill_6 : decode cX4_setOfStill 6 = .ok (.getfield 34, 3) := by decide +kernel
theorem dX4_setOfStill_9 : decode cX4_setOfStill 9 = .ok (.if_icmp .ge 27, 3) := by decide +kernel
theorem dX4_setOfStill_12 : decode cX4_setOfStill 12 = .ok (.aload_n 0, 1) := by decide +kernel
theorem dX4_setOfStill_13 : decode cX4_setOfStill 13 = .ok (.getfield 17, 3) := by decide +kernel
theorem dX4_setOfStill_16 : decode cX4_setOfStill 16 = .ok (.iload_n 2, 1) := by decide +kernel
theorem dX4_setOfStill_17 : decode cX4_setOfStill 17 = .ok (.aaload, 1) := by decide +kernel
theorem dX4_setOfStill_18 : decode cX4_setOfStill 18 = .ok (.getfield 77, 3) := by decide +kernel
theorem dX4_setOfStill_21 : decode cX4_setOfStill 21 = .ok (.ifCond .ne 9, 3) := by decide +kernel
theorem dX4_setOfStill_24 : decode cX4_setOfStill 24 = .ok (.iload_n 1, 1) := by decide +kernel
theorem dX4_setOfStill_25 : decode cX4_setOfStill 25 = .ok (.iconst 1, 1) := by decide +kernel
theorem dX4_setOfStill_26 : decode cX4_setOfStill 26 = .ok (.iload_n 2, 1) := by decide +kernel
theorem dX4_setOfStill_27 : decode cX4_setOfStill 27 = .ok (.ishl, 1) := by decide +kernel
theorem dX4_setOfStill_28 : decode cX4_setOfStill 28 = .ok (.ior, 1) := by decide +kernel
theorem dX4_setOfStill_29 : decode cX4_setOfStill 29 = .ok (.istore_n 1, 1) := by decide +kernel
theorem dX4_setOfStill_30 : decode cX4_setOfStill 30 = .ok (.iinc 2 1, 3) := by decide +kernel
theorem dX4_setOfStill_33 : decode cX4_setOfStill 33 = .ok (.goto (-29), 3) := by decide +kernel
theorem dX4_setOfStill_36 : decode cX4_setOfStill 36 = .ok (.iload_n 1, 1) := by decide +kernel
theorem dX4_setOfStill_37 : decode cX4_setOfStill 37 = .ok (.ireturn, 1) := by decide +kernel
set_option maxRecDepth 20000 in
theorem ggX4_numberOffBeyondTold_X0_isOffBeyond : GoodIn wsX4_numberOffBeyondTold wsX0_isOffBeyond := goodIn_r _ [8, 9, 10, 11, 12, 13, 21, 22, 23, 24, 25, 26, 27, 28] (by decide +kernel) (by decide +kernel)
set_option maxRecDepth 20000 in
theorem gX4_numberOffBeyondTold_X0_isOffBeyond : GoodIn wsX4_numberOffBeyondTold (wsV RX4 119 RX0 yX0_isOffBeyond wsX0_isOffBeyond) := goodIn_app (goodIn_of _ (by decide +kernel)) ggX4_numberOffBeyondTold_X0_isOffBeyond
theorem dX4_numberOffBeyondTold_0 : decode cX4_numberOffBeyondTold 0 = .ok (.iconst 0, 1) := by decide +kernel
theorem dX4_numberOffBeyondTold_1 : decode cX4_numberOffBeyondTold 1 = .ok (.istore_n 1, 1) := by decide +kernel
theorem dX4_numberOffBeyondTold_2 : decode cX4_numberOffBeyondTold 2 = .ok (.iconst 0, 1) := by decide +kernel
theorem dX4_numberOffBeyondTold_3 : decode cX4_numberOffBeyondTold 3 = .ok (.istore_n 2, 1) := by decide +kernel
theorem dX4_numberOffBeyondTold_4 : decode cX4_numberOffBeyondTold 4 = .ok (.iload_n 2, 1) := by decide +kernel
theorem dX4_numberOffBeyondTold_5 : decode cX4_numberOffBeyondTold 5 = .ok (.aload_n 0, 1) := by decide +kernel
theorem dX4_numberOffBeyondTold_6 : decode cX4_numberOffBeyondTold 6 = .ok (.getfield 34, 3) := by decide +kernel
theorem dX4_numberOffBeyondTold_9 : decode cX4_numberOffBeyondTold 9 = .ok (.if_icmp .ge 30, 3) := by decide +kernel
theorem dX4_numberOffBeyondTold_12 : decode cX4_numberOffBeyondTold 12 = .ok (.aload_n 0, 1) := by decide +kernel
theorem dX4_numberOffBeyondTold_13 : decode cX4_numberOffBeyondTold 13 = .ok (.getfield 17, 3) := by decide +kernel
theorem dX4_numberOffBeyondTold_16 : decode cX4_numberOffBeyondTold 16 = .ok (.iload_n 2, 1) := by decide +kernel
theorem dX4_numberOffBeyondTold_17 : decode cX4_numberOffBeyondTold 17 = .ok (.aaload, 1) := by decide +kernel
theorem dX4_numberOffBeyondTold_18 : decode cX4_numberOffBeyondTold 18 = .ok (.aload_n 0, 1) := by decide +kernel
theorem dX4_numberOffBeyondTold_19 : decode cX4_numberOffBeyondTold 19 = .ok (.getfield 9, 3) := by decide +kernel
theorem dX4_numberOffBeyondTold_22 : decode cX4_numberOffBeyondTold 22 = .ok (.iconst 0, 1) := by decide +kernel
theorem dX4_numberOffBeyondTold_23 : decode cX4_numberOffBeyondTold 23 = .ok (.iaload, 1) := by decide +kernel
theorem dX4_numberOffBeyondTold_24 : decode cX4_numberOffBeyondTold 24 = .ok (.invokevirtual 119, 3) := by decide +kernel
theorem dX4_numberOffBeyondTold_27 : decode cX4_numberOffBeyondTold 27 = .ok (.ifCond .eq 6, 3) := by decide +kernel
theorem dX4_numberOffBeyondTold_30 : decode cX4_numberOffBeyondTold 30 = .ok (.iinc 1 1, 3) := by decide +kernel
theorem dX4_numberOffBeyondTold_33 : decode cX4_numberOffBeyondTold 33 = .ok (.iinc 2 1, 3) := by decide +kernel
theorem dX4_numberOffBeyondTold_36 : decode cX4_numberOffBeyondTold 36 = .ok (.goto (-32), 3) := by decide +kernel
theorem dX4_numberOffBeyondTold_39 : decode cX4_numberOffBeyondTold 39 = .ok (.iload_n 1, 1) := by decide +kernel
theorem dX4_numberOffBeyondTold_40 : decode cX4_numberOffBeyondTold 40 = .ok (.ireturn, 1) := by decide +kernel
set_option maxRecDepth 20000 in
theorem ggX4_numberThatCannotBeWound_X4_canBeWound : GoodIn wsX4_numberThatCannotBeWound wsX4_canBeWound := goodIn_r _ [7, 8, 9, 10, 11, 6, 12, 13, 14, 22, 23, 24, 25, 26, 27, 28, 29, 15, 16, 17, 18, 19, 20, 21] (by decide +kernel) (by decide +kernel)
set_option maxRecDepth 20000 in
theorem gX4_numberThatCannotBeWound_X4_canBeWound : GoodIn wsX4_numberThatCannotBeWound (wsV RX4 97 RX4 yX4_canBeWound wsX4_canBeWound) := goodIn_app (goodIn_of _ (by decide +kernel)) ggX4_numberThatCannotBeWound_X4_canBeWound
theorem dX4_numberThatCannotBeWound_0 : decode cX4_numberThatCannotBeWound 0 = .ok (.iconst 0, 1) := by decide +kernel
theorem dX4_numberThatCannotBeWound_1 : decode cX4_numberThatCannotBeWound 1 = .ok (.istore_n 1, 1) := by decide +kernel
theorem dX4_numberThatCannotBeWound_2 : decode cX4_numberThatCannotBeWound 2 = .ok (.iconst 0, 1) := by decide +kernel
theorem dX4_numberThatCannotBeWound_3 : decode cX4_numberThatCannotBeWound 3 = .ok (.istore_n 2, 1) := by decide +kernel
theorem dX4_numberThatCannotBeWound_4 : decode cX4_numberThatCannotBeWound 4 = .ok (.iload_n 2, 1) := by decide +kernel
theorem dX4_numberThatCannotBeWound_5 : decode cX4_numberThatCannotBeWound 5 = .ok (.aload_n 0, 1) := by decide +kernel
theorem dX4_numberThatCannotBeWound_6 : decode cX4_numberThatCannotBeWound 6 = .ok (.getfield 34, 3) := by decide +kernel
theorem dX4_numberThatCannotBeWound_9 : decode cX4_numberThatCannotBeWound 9 = .ok (.if_icmp .ge 25, 3) := by decide +kernel
theorem dX4_numberThatCannotBeWound_12 : decode cX4_numberThatCannotBeWound 12 = .ok (.aload_n 0, 1) := by decide +kernel
theorem dX4_numberThatCannotBeWound_13 : decode cX4_numberThatCannotBeWound 13 = .ok (.aload_n 0, 1) := by decide +kernel
theorem dX4_numberThatCannotBeWound_14 : decode cX4_numberThatCannotBeWound 14 = .ok (.getfield 17, 3) := by decide +kernel
theorem dX4_numberThatCannotBeWound_17 : decode cX4_numberThatCannotBeWound 17 = .ok (.iload_n 2, 1) := by decide +kernel
theorem dX4_numberThatCannotBeWound_18 : decode cX4_numberThatCannotBeWound 18 = .ok (.aaload, 1) := by decide +kernel
theorem dX4_numberThatCannotBeWound_19 : decode cX4_numberThatCannotBeWound 19 = .ok (.invokevirtual 97, 3) := by decide +kernel
theorem dX4_numberThatCannotBeWound_22 : decode cX4_numberThatCannotBeWound 22 = .ok (.ifCond .ne 6, 3) := by decide +kernel
theorem dX4_numberThatCannotBeWound_25 : decode cX4_numberThatCannotBeWound 25 = .ok (.iinc 1 1, 3) := by decide +kernel
theorem dX4_numberThatCannotBeWound_28 : decode cX4_numberThatCannotBeWound 28 = .ok (.iinc 2 1, 3) := by decide +kernel
theorem dX4_numberThatCannotBeWound_31 : decode cX4_numberThatCannotBeWound 31 = .ok (.goto (-27), 3) := by decide +kernel
theorem dX4_numberThatCannotBeWound_34 : decode cX4_numberThatCannotBeWound 34 = .ok (.iload_n 1, 1) := by decide +kernel
theorem dX4_numberThatCannotBeWound_35 : decode cX4_numberThatCannotBeWound 35 = .ok (.ireturn, 1) := by decide +kernel
theorem dX4_timesWoundInAll_0 : decode cX4_timesWoundInAll 0 = .ok (.iconst 0, 1) := by decide +kernel
theorem dX4_timesWoundInAll_1 : decode cX4_timesWoundInAll 1 = .ok (.istore_n 1, 1) := by decide +kernel
theorem dX4_timesWoundInAll_2 : decode cX4_timesWoundInAll 2 = .ok (.iconst 0, 1) := by decide +kernel
theorem dX4_timesWoundInAll_3 : decode cX4_timesWoundInAll 3 = .ok (.istore_n 2, 1) := by decide +kernel
theorem dX4_timesWoundInAll_4 : decode cX4_timesWoundInAll 4 = .ok (.iload_n 2, 1) := by decide +kernel
theorem dX4_timesWoundInAll_5 : decode cX4_timesWoundInAll 5 = .ok (.aload_n 0, 1) := by decide +kernel
theorem dX4_timesWoundInAll_6 : decode cX4_timesWoundInAll 6 = .ok (.getfield 34, 3) := by decide +kernel
theorem dX4_timesWoundInAll_9 : decode cX4_timesWoundInAll 9 = .ok (.if_icmp .ge 21, 3) := by decide +kernel
theorem dX4_timesWoundInAll_12 : decode cX4_timesWoundInAll 12 = .ok (.iload_n 1, 1) := by decide +kernel
theorem dX4_timesWoundInAll_13 : decode cX4_timesWoundInAll 13 = .ok (.aload_n 0, 1) := by decide +kernel
theorem dX4_timesWoundInAll_14 : decode cX4_timesWoundInAll 14 = .ok (.getfield 17, 3) := by decide +kernel
theorem dX4_timesWoundInAll_17 : decode cX4_timesWoundInAll 17 = .ok (.iload_n 2, 1) := by decide +kernel
theorem dX4_timesWoundInAll_18 : decode cX4_timesWoundInAll 18 = .ok (.aaload, 1) := by decide +kernel
theorem dX4_timesWoundInAll_19 : decode cX4_timesWoundInAll 19 = .ok (.getfield 122, 3) := by decide +kernel
theorem dX4_timesWoundInAll_22 : decode cX4_timesWoundInAll 22 = .ok (.iadd, 1) := by decide +kernel
theorem dX4_timesWoundInAll_23 : decode cX4_timesWoundInAll 23 = .ok (.istore_n 1, 1) := by decide +kernel
theorem dX4_timesWoundInAll_24 : decode cX4_timesWoundInAll 24 = .ok (.iinc 2 1, 3) := by decide +kernel
theorem dX4_timesWoundInAll_27 : decode cX4_timesWoundInAll 27 = .ok (.goto (-23), 3) := by decide +kernel
theorem dX4_timesWoundInAll_30 : decode cX4_timesWoundInAll 30 = .ok (.iload_n 1, 1) := by decide +kernel
theorem dX4_timesWoundInAll_31 : decode cX4_timesWoundInAll 31 = .ok (.ireturn, 1) := by decide +kernel
set_option maxRecDepth 20000 in
theorem ggX4_rungsOutOfReach_X4_canBeWound : GoodIn wsX4_rungsOutOfReach wsX4_canBeWound := goodIn_r _ [12, 3, 13, 14, 15, 11, 16, 17, 18, 26, 27, 28, 29, 30, 31, 32, 33, 19, 20, 21, 22, 23, 24, 25] (by decide +kernel) (by decide +kernel)
set_option maxRecDepth 20000 in
theorem gX4_rungsOutOfReach_X4_canBeWound : GoodIn wsX4_rungsOutOfReach (wsV RX4 97 RX4 yX4_canBeWound wsX4_canBeWound) := goodIn_app (goodIn_of _ (by decide +kernel)) ggX4_rungsOutOfReach_X4_canBeWound
theorem dX4_rungsOutOfReach_0 : decode cX4_rungsOutOfReach 0 = .ok (.iconst 0, 1) := by decide +kernel
theorem dX4_rungsOutOfReach_1 : decode cX4_rungsOutOfReach 1 = .ok (.istore_n 1, 1) := by decide +kernel
theorem dX4_rungsOutOfReach_2 : decode cX4_rungsOutOfReach 2 = .ok (.iconst 0, 1) := by decide +kernel
theorem dX4_rungsOutOfReach_3 : decode cX4_rungsOutOfReach 3 = .ok (.istore_n 2, 1) := by decide +kernel
theorem dX4_rungsOutOfReach_4 : decode cX4_rungsOutOfReach 4 = .ok (.iload_n 2, 1) := by decide +kernel
theorem dX4_rungsOutOfReach_5 : decode cX4_rungsOutOfReach 5 = .ok (.aload_n 0, 1) := by decide +kernel
theorem dX4_rungsOutOfReach_6 : decode cX4_rungsOutOfReach 6 = .ok (.getfield 34, 3) := by decide +kernel
theorem dX4_rungsOutOfReach_9 : decode cX4_rungsOutOfReach 9 = .ok (.if_icmp .ge 36, 3) := by decide +kernel
theorem dX4_rungsOutOfReach_12 : decode cX4_rungsOutOfReach 12 = .ok (.aload_n 0, 1) := by decide +kernel
theorem dX4_rungsOutOfReach_13 : decode cX4_rungsOutOfReach 13 = .ok (.aload_n 0, 1) := by decide +kernel
theorem dX4_rungsOutOfReach_14 : decode cX4_rungsOutOfReach 14 = .ok (.getfield 17, 3) := by decide +kernel
theorem dX4_rungsOutOfReach_17 : decode cX4_rungsOutOfReach 17 = .ok (.iload_n 2, 1) := by decide +kernel
theorem dX4_rungsOutOfReach_18 : decode cX4_rungsOutOfReach 18 = .ok (.aaload, 1) := by decide +kernel
theorem dX4_rungsOutOfReach_19 : decode cX4_rungsOutOfReach 19 = .ok (.invokevirtual 97, 3) := by decide +kernel
theorem dX4_rungsOutOfReach_22 : decode cX4_rungsOutOfReach 22 = .ok (.ifCond .ne 17, 3) := by decide +kernel
theorem dX4_rungsOutOfReach_25 : decode cX4_rungsOutOfReach 25 = .ok (.iload_n 1, 1) := by decide +kernel
theorem dX4_rungsOutOfReach_26 : decode cX4_rungsOutOfReach 26 = .ok (.aload_n 0, 1) := by decide +kernel
theorem dX4_rungsOutOfReach_27 : decode cX4_rungsOutOfReach 27 = .ok (.getfield 17, 3) := by decide +kernel
theorem dX4_rungsOutOfReach_30 : decode cX4_rungsOutOfReach 30 = .ok (.iload_n 2, 1) := by decide +kernel
theorem dX4_rungsOutOfReach_31 : decode cX4_rungsOutOfReach 31 = .ok (.aaload, 1) := by decide +kernel
theorem dX4_rungsOutOfReach_32 : decode cX4_rungsOutOfReach 32 = .ok (.getfield 116, 3) := by decide +kernel
theorem dX4_rungsOutOfReach_35 : decode cX4_rungsOutOfReach 35 = .ok (.invokestatic 125, 3) := by decide +kernel
theorem dX4_rungsOutOfReach_38 : decode cX4_rungsOutOfReach 38 = .ok (.istore_n 1, 1) := by decide +kernel
theorem dX4_rungsOutOfReach_39 : decode cX4_rungsOutOfReach 39 = .ok (.iinc 2 1, 3) := by decide +kernel
theorem dX4_rungsOutOfReach_42 : decode cX4_rungsOutOfReach 42 = .ok (.goto (-38), 3) := by decide +kernel
theorem dX4_rungsOutOfReach_45 : decode cX4_rungsOutOfReach 45 = .ok (.iload_n 1, 1) := by decide +kernel
theorem dX4_rungsOutOfReach_46 : decode cX4_rungsOutOfReach 46 = .ok (.ireturn, 1) := by decide +kernel
set_option maxRecDepth 20000 in
theorem ggX4_daysUntilOff_X4_hasClock : GoodIn wsX4_daysUntilOff wsX4_hasClock := goodIn_r _ [7, 8, 33, 34, 35, 36, 37, 38, 39] (by decide +kernel) (by decide +kernel)
set_option maxRecDepth 20000 in
theorem gX4_daysUntilOff_X4_hasClock : GoodIn wsX4_daysUntilOff (wsV RX4 62 RX4 yX4_hasClock wsX4_hasClock) := goodIn_app (goodIn_of _ (by decide +kernel)) ggX4_daysUntilOff_X4_hasClock
set_option maxRecDepth 20000 in
theorem ggX4_daysUntilOff_X0_daysUntilOff : GoodIn wsX4_daysUntilOff wsX0_daysUntilOff := goodIn_r _ [13, 14, 15, 16, 17, 18, 19, 20, 21, 22, 23, 24, 25, 12, 26, 27, 28, 29, 30, 31, 32, 40, 41, 42, 43, 44, 45, 46, 47] (by decide +kernel) (by decide +kernel)
set_option maxRecDepth 20000 in
theorem gX4_daysUntilOff_X0_daysUntilOff : GoodIn wsX4_daysUntilOff (wsV RX4 129 RX0 yX0_daysUntilOff wsX0_daysUntilOff) := goodIn_app (goodIn_of _ (by decide +kernel)) ggX4_daysUntilOff_X0_daysUntilOff
theorem dX4_daysUntilOff_0 : decode cX4_daysUntilOff 0 = .ok (.aload_n 0, 1) := by decide +kernel
theorem dX4_daysUntilOff_1 : decode cX4_daysUntilOff 1 = .ok (.iload_n 1, 1) := by decide +kernel
theorem dX4_daysUntilOff_2 : decode cX4_daysUntilOff 2 = .ok (.invokevirtual 62, 3) := by decide +kernel
theorem dX4_daysUntilOff_5 : decode cX4_daysUntilOff 5 = .ok (.ifCond .eq 27, 3) := by decide +kernel
theorem dX4_daysUntilOff_8 : decode cX4_daysUntilOff 8 = .ok (.aload_n 0, 1) := by decide +kernel
theorem dX4_daysUntilOff_9 : decode cX4_daysUntilOff 9 = .ok (.getfield 17, 3) := by decide +kernel
theorem dX4_daysUntilOff_12 : decode cX4_daysUntilOff 12 = .ok (.iload_n 1, 1) := by decide +kernel
theorem dX4_daysUntilOff_13 : decode cX4_daysUntilOff 13 = .ok (.aaload, 1) := by decide +kernel
theorem dX4_daysUntilOff_14 : decode cX4_daysUntilOff 14 = .ok (.aload_n 0, 1) := by decide +kernel
theorem dX4_daysUntilOff_15 : decode cX4_daysUntilOff 15 = .ok (.getfield 9, 3) := by decide +kernel
theorem dX4_daysUntilOff_18 : decode cX4_daysUntilOff 18 = .ok (.iconst 0, 1) := by decide +kernel
theorem dX4_daysUntilOff_19 : decode cX4_daysUntilOff 19 = .ok (.iaload, 1) := by decide +kernel
theorem dX4_daysUntilOff_20 : decode cX4_daysUntilOff 20 = .ok (.aload_n 0, 1) := by decide +kernel
theorem dX4_daysUntilOff_21 : decode cX4_daysUntilOff 21 = .ok (.getfield 9, 3) := by decide +kernel
theorem dX4_daysUntilOff_24 : decode cX4_daysUntilOff 24 = .ok (.iconst 1, 1) := by decide +kernel
theorem dX4_daysUntilOff_25 : decode cX4_daysUntilOff 25 = .ok (.iaload, 1) := by decide +kernel
theorem dX4_daysUntilOff_26 : decode cX4_daysUntilOff 26 = .ok (.invokevirtual 129, 3) := by decide +kernel
theorem dX4_daysUntilOff_29 : decode cX4_daysUntilOff 29 = .ok (.goto 4, 3) := by decide +kernel
theorem dX4_daysUntilOff_32 : decode cX4_daysUntilOff 32 = .ok (.iconst (-1), 1) := by decide +kernel
theorem dX4_daysUntilOff_33 : decode cX4_daysUntilOff 33 = .ok (.ireturn, 1) := by decide +kernel
set_option maxRecDepth 20000 in
theorem ggX4_tellDaysUntilOff_X4_daysUntilOff : GoodIn wsX4_tellDaysUntilOff wsX4_daysUntilOff := goodIn_r _ [6, 7, 8, 9, 10, 11, 5, 12, 1, 13, 14, 15, 16, 17, 18, 19, 20, 21, 22, 23, 24, 25, 26, 27, 28, 29, 30, 31, 32, 33, 34, 35, 36, 37, 38, 39, 40, 41, 42, 43, 44, 45, 46, 47, 48, 49, 50, 51] (by decide +kernel) (by decide +kernel)
set_option maxRecDepth 20000 in
theorem gX4_tellDaysUntilOff_X4_daysUntilOff : GoodIn wsX4_tellDaysUntilOff (wsV RX4 132 RX4 yX4_daysUntilOff wsX4_daysUntilOff) := goodIn_app (goodIn_of _ (by decide +kernel)) ggX4_tellDaysUntilOff_X4_daysUntilOff
theorem dX4_tellDaysUntilOff_0 : decode cX4_tellDaysUntilOff 0 = .ok (.iconst 0, 1) := by decide +kernel
theorem dX4_tellDaysUntilOff_1 : decode cX4_tellDaysUntilOff 1 = .ok (.istore_n 2, 1) := by decide +kernel
theorem dX4_tellDaysUntilOff_2 : decode cX4_tellDaysUntilOff 2 = .ok (.iload_n 2, 1) := by decide +kernel
theorem dX4_tellDaysUntilOff_3 : decode cX4_tellDaysUntilOff 3 = .ok (.aload_n 0, 1) := by decide +kernel
theorem dX4_tellDaysUntilOff_4 : decode cX4_tellDaysUntilOff 4 = .ok (.getfield 34, 3) := by decide +kernel
theorem dX4_tellDaysUntilOff_7 : decode cX4_tellDaysUntilOff 7 = .ok (.if_icmp .ge 23, 3) := by decide +kernel
theorem dX4_tellDaysUntilOff_10 : decode cX4_tellDaysUntilOff 10 = .ok (.iload_n 2, 1) := by decide +kernel
theorem dX4_tellDaysUntilOff_11 : decode cX4_tellDaysUntilOff 11 = .ok (.aload_n 1, 1) := by decide +kernel
theorem dX4_tellDaysUntilOff_12 : decode cX4_tellDaysUntilOff 12 = .ok (.arraylength, 1) := by decide +kernel
theorem dX4_tellDaysUntilOff_13 : decode cX4_tellDaysUntilOff 13 = .ok (.if_icmp .ge 17, 3) := by decide +kernel
theorem dX4_tellDaysUntilOff_16 : decode cX4_tellDaysUntilOff 16 = .ok (.aload_n 1, 1) := by decide +kernel
theorem dX4_tellDaysUntilOff_17 : decode cX4_tellDaysUntilOff 17 = .ok (.iload_n 2, 1) := by decide +kernel
theorem dX4_tellDaysUntilOff_18 : decode cX4_tellDaysUntilOff 18 = .ok (.aload_n 0, 1) := by decide +kernel
theorem dX4_tellDaysUntilOff_19 : decode cX4_tellDaysUntilOff 19 = .ok (.iload_n 2, 1) := by decide +kernel
theorem dX4_tellDaysUntilOff_20 : decode cX4_tellDaysUntilOff 20 = .ok (.invokevirtual 132, 3) := by decide +kernel
theorem dX4_tellDaysUntilOff_23 : decode cX4_tellDaysUntilOff 23 = .ok (.iastore, 1) := by decide +kernel
theorem dX4_tellDaysUntilOff_24 : decode cX4_tellDaysUntilOff 24 = .ok (.iinc 2 1, 3) := by decide +kernel
theorem dX4_tellDaysUntilOff_27 : decode cX4_tellDaysUntilOff 27 = .ok (.goto (-25), 3) := by decide +kernel
theorem dX4_tellDaysUntilOff_30 : decode cX4_tellDaysUntilOff 30 = .ok (.return_, 1) := by decide +kernel
set_option maxRecDepth 20000 in
theorem ggX4_rankOf_X4_hasClock : GoodIn wsX4_rankOf wsX4_hasClock := goodIn_r _ [6, 1, 7, 8, 9, 10, 11, 12, 13] (by decide +kernel) (by decide +kernel)
set_option maxRecDepth 20000 in
theorem gX4_rankOf_X4_hasClock : GoodIn wsX4_rankOf (wsV RX4 62 RX4 yX4_hasClock wsX4_hasClock) := goodIn_app (goodIn_of _ (by decide +kernel)) ggX4_rankOf_X4_hasClock
theorem dX4_rankOf_0 : decode cX4_rankOf 0 = .ok (.aload_n 0, 1) := by decide +kernel
theorem dX4_rankOf_1 : decode cX4_rankOf 1 = .ok (.iload_n 1, 1) := by decide +kernel
theorem dX4_rankOf_2 : decode cX4_rankOf 2 = .ok (.invokevirtual 62, 3) := by decide +kernel
theorem dX4_rankOf_5 : decode cX4_rankOf 5 = .ok (.ifCond .eq 9, 3) := by decide +kernel
theorem dX4_rankOf_8 : decode cX4_rankOf 8 = .ok (.iload_n 1, 1) := by decide +kernel
theorem dX4_rankOf_9 : decode cX4_rankOf 9 = .ok (.aload_n 2, 1) := by decide +kernel
theorem dX4_rankOf_10 : decode cX4_rankOf 10 = .ok (.arraylength, 1) := by decide +kernel
theorem dX4_rankOf_11 : decode cX4_rankOf 11 = .ok (.if_icmp .lt 5, 3) := by decide +kernel
theorem dX4_rankOf_14 : decode cX4_rankOf 14 = .ok (.iconst (-1), 1) := by decide +kernel
theorem dX4_rankOf_15 : decode cX4_rankOf 15 = .ok (.ireturn, 1) := by decide +kernel
theorem dX4_rankOf_16 : decode cX4_rankOf 16 = .ok (.iconst 0, 1) := by decide +kernel
theorem dX4_rankOf_17 : decode cX4_rankOf 17 = .ok (.istore_n 3, 1) := by decide +kernel
theorem dX4_rankOf_18 : decode cX4_rankOf 18 = .ok (.iconst 0, 1) := by decide +kernel
theorem dX4_rankOf_19 : decode cX4_rankOf 19 = .ok (.istore 4, 2) := by decide +kernel
theorem dX4_rankOf_21 : decode cX4_rankOf 21 = .ok (.iload 4, 2) := by decide +kernel
theorem dX4_rankOf_23 : decode cX4_rankOf 23 = .ok (.aload_n 0, 1) := by decide +kernel
theorem dX4_rankOf_24 : decode cX4_rankOf 24 = .ok (.getfield 34, 3) := by decide +kernel
theorem dX4_rankOf_27 : decode cX4_rankOf 27 = .ok (.if_icmp .ge 45, 3) := by decide +kernel
theorem dX4_rankOf_30 : decode cX4_rankOf 30 = .ok (.iload 4, 2) := by decide +kernel
theorem dX4_rankOf_32 : decode cX4_rankOf 32 = .ok (.aload_n 2, 1) := by decide +kernel
theorem dX4_rankOf_33 : decode cX4_rankOf 33 = .ok (.arraylength, 1) := by decide +kernel
theorem dX4_rankOf_34 : decode cX4_rankOf 34 = .ok (.if_icmp .ge 38, 3) := by decide +kernel
theorem dX4_rankOf_37 : decode cX4_rankOf 37 = .ok (.aload_n 2, 1) := by decide +kernel
theorem dX4_rankOf_38 : decode cX4_rankOf 38 = .ok (.iload 4, 2) := by decide +kernel
theorem dX4_rankOf_40 : decode cX4_rankOf 40 = .ok (.iaload, 1) := by decide +kernel
theorem dX4_rankOf_41 : decode cX4_rankOf 41 = .ok (.aload_n 2, 1) := by decide +kernel
theorem dX4_rankOf_42 : decode cX4_rankOf 42 = .ok (.iload_n 1, 1) := by decide +kernel
theorem dX4_rankOf_43 : decode cX4_rankOf 43 = .ok (.iaload, 1) := by decide +kernel
theorem dX4_rankOf_44 : decode cX4_rankOf 44 = .ok (.if_icmp .lt 19, 3) := by decide +kernel
theorem dX4_rankOf_47 : decode cX4_rankOf 47 = .ok (.aload_n 2, 1) := by decide +kernel
theorem dX4_rankOf_48 : decode cX4_rankOf 48 = .ok (.iload 4, 2) := by decide +kernel
theorem dX4_rankOf_50 : decode cX4_rankOf 50 = .ok (.iaload, 1) := by decide +kernel
theorem dX4_rankOf_51 : decode cX4_rankOf 51 = .ok (.aload_n 2, 1) := by decide +kernel
theorem dX4_rankOf_52 : decode cX4_rankOf 52 = .ok (.iload_n 1, 1) := by decide +kernel
theorem dX4_rankOf_53 : decode cX4_rankOf 53 = .ok (.iaload, 1) := by decide +kernel
theorem dX4_rankOf_54 : decode cX4_rankOf 54 = .ok (.if_icmp .ne 12, 3) := by decide +kernel
theorem dX4_rankOf_57 : decode cX4_rankOf 57 = .ok (.iload 4, 2) := by decide +kernel
theorem dX4_rankOf_59 : decode cX4_rankOf 59 = .ok (.iload_n 1, 1) := by decide +kernel
theorem dX4_rankOf_60 : decode cX4_rankOf 60 = .ok (.if_icmp .ge 6, 3) := by decide +kernel
theorem dX4_rankOf_63 : decode cX4_rankOf 63 = .ok (.iinc 3 1, 3) := by decide +kernel
theorem dX4_rankOf_66 : decode cX4_rankOf 66 = .ok (.iinc 4 1, 3) := by decide +kernel
theorem dX4_rankOf_69 : decode cX4_rankOf 69 = .ok (.goto (-48), 3) := by decide +kernel
theorem dX4_rankOf_72 : decode cX4_rankOf 72 = .ok (.iload_n 3, 1) := by decide +kernel
theorem dX4_rankOf_73 : decode cX4_rankOf 73 = .ok (.ireturn, 1) := by decide +kernel
set_option maxRecDepth 20000 in
theorem ggX5_init_X4_init : GoodIn wsX5_init wsX4_init := goodIn_r _ [27, 28, 2, 3, 23, 29, 30, 31, 32, 33, 34, 35, 36, 37, 38, 39, 40, 41, 60, 61, 62, 63, 64, 65, 66, 83, 84, 85, 86, 87, 88, 89, 90] (by decide +kernel) (by decide +kernel)
set_option maxRecDepth 20000 in
theorem gX5_init_X4_init : GoodIn wsX5_init (wsX4_init) := ggX5_init_X4_init
set_option maxRecDepth 20000 in
theorem ggX5_init_X1_init : GoodIn wsX5_init wsX1_init := goodIn_r _ [44, 45, 2, 3, 46, 47, 5, 6, 48, 26, 27, 28, 23, 29, 30, 31, 32, 33, 34, 35, 36, 37, 38, 39, 40, 41, 74, 75, 60, 61, 62, 63, 64, 65, 66, 83, 84, 85, 86, 87, 88, 89, 90] (by decide +kernel) (by decide +kernel)
set_option maxRecDepth 20000 in
theorem gX5_init_X1_init : GoodIn wsX5_init (wsX1_init) := ggX5_init_X1_init
set_option maxRecDepth 20000 in
theorem ggX5_init_X2_init : GoodIn wsX5_init wsX2_init := goodIn_r _ [50, 51, 2, 3, 52, 53, 54, 20, 21, 55, 56, 57, 58, 23, 59, 76, 77, 78, 79, 80, 81, 82] (by decide +kernel) (by decide +kernel)
set_option maxRecDepth 20000 in
theorem gX5_init_X2_init_n33 : GoodIn wsX5_init (wsX2_init) := ggX5_init_X2_init
set_option maxRecDepth 20000 in
theorem ggX5_init_X3_init : GoodIn wsX5_init wsX3_init := goodIn_r _ [57, 58, 2, 3, 23, 59, 81, 82] (by decide +kernel) (by decide +kernel)
set_option maxRecDepth 20000 in
theorem gX5_init_X3_init_n40 : GoodIn wsX5_init (wsX3_init) := ggX5_init_X3_init
