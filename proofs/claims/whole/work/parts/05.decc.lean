theorem dX6_init_0 : decode cX6_init 0 = .ok (.aload_n 0, 1) := by decide +kernel
theorem dX6_init_1 : decode cX6_init 1 = .ok (.invokespecial 1, 3) := by decide +kernel
theorem dX6_init_4 : decode cX6_init 4 = .ok (.aload_n 0, 1) := by decide +kernel
theorem dX6_init_5 : decode cX6_init 5 = .ok (.sipush 140, 3) := by decide +kernel
theorem dX6_init_8 : decode cX6_init 8 = .ok (.newarray .int, 2) := by decide +kernel
theorem dX6_init_10 : decode cX6_init 10 = .ok (.putfield 7, 3) := by decide +kernel
theorem dX6_init_13 : decode cX6_init 13 = .ok (.aload_n 0, 1) := by decide +kernel
theorem dX6_init_14 : decode cX6_init 14 = .ok (.sipush 140, 3) := by decide +kernel
theorem dX6_init_17 : decode cX6_init 17 = .ok (.newarray .int, 2) := by decide +kernel
theorem dX6_init_19 : decode cX6_init 19 = .ok (.putfield 13, 3) := by decide +kernel
theorem dX6_init_22 : decode cX6_init 22 = .ok (.aload_n 0, 1) := by decide +kernel
theorem dX6_init_23 : decode cX6_init 23 = .ok (.sipush 840, 3) := by decide +kernel
theorem dX6_init_26 : decode cX6_init 26 = .ok (.newarray .int, 2) := by decide +kernel
theorem dX6_init_28 : decode cX6_init 28 = .ok (.putfield 16, 3) := by decide +kernel
theorem dX6_init_31 : decode cX6_init 31 = .ok (.aload_n 0, 1) := by decide +kernel
theorem dX6_init_32 : decode cX6_init 32 = .ok (.sipush 280, 3) := by decide +kernel
theorem dX6_init_35 : decode cX6_init 35 = .ok (.newarray .int, 2) := by decide +kernel
theorem dX6_init_37 : decode cX6_init 37 = .ok (.putfield 19, 3) := by decide +kernel
theorem dX6_init_40 : decode cX6_init 40 = .ok (.aload_n 0, 1) := by decide +kernel
theorem dX6_init_41 : decode cX6_init 41 = .ok (.iconst 2, 1) := by decide +kernel
theorem dX6_init_42 : decode cX6_init 42 = .ok (.newarray .boolean, 2) := by decide +kernel
theorem dX6_init_44 : decode cX6_init 44 = .ok (.putfield 22, 3) := by decide +kernel
theorem dX6_init_47 : decode cX6_init 47 = .ok (.aload_n 0, 1) := by decide +kernel
theorem dX6_init_48 : decode cX6_init 48 = .ok (.bipush 80, 2) := by decide +kernel
theorem dX6_init_50 : decode cX6_init 50 = .ok (.newarray .int, 2) := by decide +kernel
theorem dX6_init_52 : decode cX6_init 52 = .ok (.putfield 26, 3) := by decide +kernel
theorem dX6_init_55 : decode cX6_init 55 = .ok (.aload_n 0, 1) := by decide +kernel
theorem dX6_init_56 : decode cX6_init 56 = .ok (.bipush 80, 2) := by decide +kernel
theorem dX6_init_58 : decode cX6_init 58 = .ok (.newarray .int, 2) := by decide +kernel
theorem dX6_init_60 : decode cX6_init 60 = .ok (.putfield 29, 3) := by decide +kernel
theorem dX6_init_63 : decode cX6_init 63 = .ok (.aload_n 0, 1) := by decide +kernel
theorem dX6_init_64 : decode cX6_init 64 = .ok (.bipush 16, 2) := by decide +kernel
theorem dX6_init_66 : decode cX6_init 66 = .ok (.newarray .int, 2) := by decide +kernel
theorem dX6_init_68 : decode cX6_init 68 = .ok (.putfield 32, 3) := by decide +kernel
theorem dX6_init_71 : decode cX6_init 71 = .ok (.aload_n 0, 1) := by decide +kernel
theorem dX6_init_72 : decode cX6_init 72 = .ok (.getfield 7, 3) := by decide +kernel
theorem dX6_init_75 : decode cX6_init 75 = .ok (.iconst 0, 1) := by decide +kernel
theorem dX6_init_76 : decode cX6_init 76 = .ok (.bipush 60, 2) := by decide +kernel
theorem dX6_init_78 : decode cX6_init 78 = .ok (.iastore, 1) := by decide +kernel
theorem dX6_init_79 : decode cX6_init 79 = .ok (.aload_n 0, 1) := by decide +kernel
theorem dX6_init_80 : decode cX6_init 80 = .ok (.getfield 7, 3) := by decide +kernel
theorem dX6_init_83 : decode cX6_init 83 = .ok (.iconst 1, 1) := by decide +kernel
theorem dX6_init_84 : decode cX6_init 84 = .ok (.bipush 8, 2) := by decide +kernel
theorem dX6_init_86 : decode cX6_init 86 = .ok (.iastore, 1) := by decide +kernel
theorem dX6_init_87 : decode cX6_init 87 = .ok (.aload_n 0, 1) := by decide +kernel
theorem dX6_init_88 : decode cX6_init 88 = .ok (.getfield 7, 3) := by decide +kernel
theorem dX6_init_91 : decode cX6_init 91 = .ok (.iconst 2, 1) := by decide +kernel
theorem dX6_init_92 : decode cX6_init 92 = .ok (.iconst 5, 1) := by decide +kernel
theorem dX6_init_93 : decode cX6_init 93 = .ok (.iastore, 1) := by decide +kernel
theorem dX6_init_94 : decode cX6_init 94 = .ok (.aload_n 0, 1) := by decide +kernel
theorem dX6_init_95 : decode cX6_init 95 = .ok (.getfield 7, 3) := by decide +kernel
theorem dX6_init_98 : decode cX6_init 98 = .ok (.iconst 3, 1) := by decide +kernel
theorem dX6_init_99 : decode cX6_init 99 = .ok (.bipush 10, 2) := by decide +kernel
theorem dX6_init_101 : decode cX6_init 101 = .ok (.iastore, 1) := by decide +kernel
theorem dX6_init_102 : decode cX6_init 102 = .ok (.return_, 1) := by decide +kernel
theorem dX6_in_0 : decode cX6_in 0 = .ok (.iload_n 0, 1) := by decide +kernel
theorem dX6_in_1 : decode cX6_in 1 = .ok (.iload_n 1, 1) := by decide +kernel
theorem dX6_in_2 : decode cX6_in 2 = .ok (.if_icmp .lt 12, 3) := by decide +kernel
theorem dX6_in_5 : decode cX6_in 5 = .ok (.iload_n 0, 1) := by decide +kernel
theorem dX6_in_6 : decode cX6_in 6 = .ok (.iload_n 2, 1) := by decide +kernel
theorem dX6_in_7 : decode cX6_in 7 = .ok (.if_icmp .gt 7, 3) := by decide +kernel
theorem dX6_in_10 : decode cX6_in 10 = .ok (.iconst 1, 1) := by decide +kernel
theorem dX6_in_11 : decode cX6_in 11 = .ok (.goto 4, 3) := by decide +kernel
theorem dX6_in_14 : decode cX6_in 14 = .ok (.iconst 0, 1) := by decide +kernel
theorem dX6_in_15 : decode cX6_in 15 = .ok (.ireturn, 1) := by decide +kernel
theorem dX6_size_0 : decode cX6_size 0 = .ok (.iload_n 0, 1) := by decide +kernel
theorem dX6_size_1 : decode cX6_size 1 = .ok (.ifCond .ge 8, 3) := by decide +kernel
theorem dX6_size_4 : decode cX6_size 4 = .ok (.iload_n 0, 1) := by decide +kernel
theorem dX6_size_5 : decode cX6_size 5 = .ok (.ineg, 1) := by decide +kernel
theorem dX6_size_6 : decode cX6_size 6 = .ok (.goto 4, 3) := by decide +kernel
theorem dX6_size_9 : decode cX6_size 9 = .ok (.iload_n 0, 1) := by decide +kernel
theorem dX6_size_10 : decode cX6_size 10 = .ok (.ireturn, 1) := by decide +kernel
theorem dX6_at_0 : decode cX6_at 0 = .ok (.bipush 12, 2) := by decide +kernel
theorem dX6_at_2 : decode cX6_at 2 = .ok (.bipush 8, 2) := by decide +kernel
theorem dX6_at_4 : decode cX6_at 4 = .ok (.iload_n 0, 1) := by decide +kernel
theorem dX6_at_5 : decode cX6_at 5 = .ok (.imul, 1) := by decide +kernel
theorem dX6_at_6 : decode cX6_at 6 = .ok (.iadd, 1) := by decide +kernel
theorem dX6_at_7 : decode cX6_at 7 = .ok (.iload_n 1, 1) := by decide +kernel
theorem dX6_at_8 : decode cX6_at 8 = .ok (.iadd, 1) := by decide +kernel
theorem dX6_at_9 : decode cX6_at 9 = .ok (.ireturn, 1) := by decide +kernel
set_option maxRecDepth 20000 in
theorem ggX6_isClock_X6_in : GoodIn wsX6_isClock wsX6_in := goodIn_r _ [5] (by decide +kernel) (by decide +kernel)
set_option maxRecDepth 20000 in
theorem gX6_isClock_X6_in : GoodIn wsX6_isClock (va_wsS RX6 35 yX6_in wsX6_in) := goodIn_app (goodIn_of _ (by decide +kernel)) ggX6_isClock_X6_in
theorem dX6_isClock_0 : decode cX6_isClock 0 = .ok (.iload_n 1, 1) := by decide +kernel
theorem dX6_isClock_1 : decode cX6_isClock 1 = .ok (.iconst 0, 1) := by decide +kernel
theorem dX6_isClock_2 : decode cX6_isClock 2 = .ok (.aload_n 0, 1) := by decide +kernel
theorem dX6_isClock_3 : decode cX6_isClock 3 = .ok (.getfield 7, 3) := by decide +kernel
theorem dX6_isClock_6 : decode cX6_isClock 6 = .ok (.iconst 5, 1) := by decide +kernel
theorem dX6_isClock_7 : decode cX6_isClock 7 = .ok (.iaload, 1) := by decide +kernel
theorem dX6_isClock_8 : decode cX6_isClock 8 = .ok (.iconst 1, 1) := by decide +kernel
theorem dX6_isClock_9 : decode cX6_isClock 9 = .ok (.isub, 1) := by decide +kernel
theorem dX6_isClock_10 : decode cX6_isClock 10 = .ok (.invokestatic 35, 3) := by decide +kernel
theorem dX6_isClock_13 : decode cX6_isClock 13 = .ok (.ireturn, 1) := by decide +kernel
theorem dX6_know_0 : decode cX6_know 0 = .ok (.aload_n 0, 1) := by decide +kernel
theorem dX6_know_1 : decode cX6_know 1 = .ok (.getfield 39, 3) := by decide +kernel
theorem dX6_know_4 : decode cX6_know 4 = .ok (.bipush 6, 2) := by decide +kernel
theorem dX6_know_6 : decode cX6_know 6 = .ok (.if_icmp .ne 44, 3) := by decide +kernel
theorem dX6_know_9 : decode cX6_know 9 = .ok (.iconst 0, 1) := by decide +kernel
theorem dX6_know_10 : decode cX6_know 10 = .ok (.istore_n 1, 1) := by decide +kernel
theorem dX6_know_11 : decode cX6_know 11 = .ok (.iload_n 1, 1) := by decide +kernel
theorem dX6_know_12 : decode cX6_know 12 = .ok (.sipush 700, 3) := by decide +kernel
theorem dX6_know_15 : decode cX6_know 15 = .ok (.if_icmp .ge 25, 3) := by decide +kernel
theorem dX6_know_18 : decode cX6_know 18 = .ok (.aload_n 0, 1) := by decide +kernel
theorem dX6_know_19 : decode cX6_know 19 = .ok (.getfield 16, 3) := by decide +kernel
theorem dX6_know_22 : decode cX6_know 22 = .ok (.iload_n 1, 1) := by decide +kernel
theorem dX6_know_23 : decode cX6_know 23 = .ok (.aload_n 0, 1) := by decide +kernel
theorem dX6_know_24 : decode cX6_know 24 = .ok (.getfield 16, 3) := by decide +kernel
theorem dX6_know_27 : decode cX6_know 27 = .ok (.sipush 140, 3) := by decide +kernel
theorem dX6_know_30 : decode cX6_know 30 = .ok (.iload_n 1, 1) := by decide +kernel
theorem dX6_know_31 : decode cX6_know 31 = .ok (.iadd, 1) := by decide +kernel
theorem dX6_know_32 : decode cX6_know 32 = .ok (.iaload, 1) := by decide +kernel
theorem dX6_know_33 : decode cX6_know 33 = .ok (.iastore, 1) := by decide +kernel
theorem dX6_know_34 : decode cX6_know 34 = .ok (.iinc 1 1, 3) := by decide +kernel
theorem dX6_know_37 : decode cX6_know 37 = .ok (.goto (-26), 3) := by decide +kernel
theorem dX6_know_40 : decode cX6_know 40 = .ok (.aload_n 0, 1) := by decide +kernel
theorem dX6_know_41 : decode cX6_know 41 = .ok (.dup, 1) := by decide +kernel
theorem dX6_know_42 : decode cX6_know 42 = .ok (.getfield 39, 3) := by decide +kernel
theorem dX6_know_45 : decode cX6_know 45 = .ok (.iconst 1, 1) := by decide +kernel
theorem dX6_know_46 : decode cX6_know 46 = .ok (.isub, 1) := by decide +kernel
theorem dX6_know_47 : decode cX6_know 47 = .ok (.putfield 39, 3) := by decide +kernel
theorem dX6_know_50 : decode cX6_know 50 = .ok (.iconst 0, 1) := by decide +kernel
theorem dX6_know_51 : decode cX6_know 51 = .ok (.istore_n 1, 1) := by decide +kernel
theorem dX6_know_52 : decode cX6_know 52 = .ok (.iload_n 1, 1) := by decide +kernel
theorem dX6_know_53 : decode cX6_know 53 = .ok (.sipush 140, 3) := by decide +kernel
theorem dX6_know_56 : decode cX6_know 56 = .ok (.if_icmp .ge 30, 3) := by decide +kernel
theorem dX6_know_59 : decode cX6_know 59 = .ok (.aload_n 0, 1) := by decide +kernel
theorem dX6_know_60 : decode cX6_know 60 = .ok (.getfield 16, 3) := by decide +kernel
theorem dX6_know_63 : decode cX6_know 63 = .ok (.sipush 140, 3) := by decide +kernel
theorem dX6_know_66 : decode cX6_know 66 = .ok (.aload_n 0, 1) := by decide +kernel
theorem dX6_know_67 : decode cX6_know 67 = .ok (.getfield 39, 3) := by decide +kernel
theorem dX6_know_70 : decode cX6_know 70 = .ok (.imul, 1) := by decide +kernel
theorem dX6_know_71 : decode cX6_know 71 = .ok (.iload_n 1, 1) := by decide +kernel
theorem dX6_know_72 : decode cX6_know 72 = .ok (.iadd, 1) := by decide +kernel
theorem dX6_know_73 : decode cX6_know 73 = .ok (.aload_n 0, 1) := by decide +kernel
theorem dX6_know_74 : decode cX6_know 74 = .ok (.getfield 7, 3) := by decide +kernel
theorem dX6_know_77 : decode cX6_know 77 = .ok (.iload_n 1, 1) := by decide +kernel
theorem dX6_know_78 : decode cX6_know 78 = .ok (.iaload, 1) := by decide +kernel
theorem dX6_know_79 : decode cX6_know 79 = .ok (.iastore, 1) := by decide +kernel
theorem dX6_know_80 : decode cX6_know 80 = .ok (.iinc 1 1, 3) := by decide +kernel
theorem dX6_know_83 : decode cX6_know 83 = .ok (.goto (-31), 3) := by decide +kernel
theorem dX6_know_86 : decode cX6_know 86 = .ok (.aload_n 0, 1) := by decide +kernel
theorem dX6_know_87 : decode cX6_know 87 = .ok (.dup, 1) := by decide +kernel
theorem dX6_know_88 : decode cX6_know 88 = .ok (.getfield 39, 3) := by decide +kernel
theorem dX6_know_91 : decode cX6_know 91 = .ok (.iconst 1, 1) := by decide +kernel
theorem dX6_know_92 : decode cX6_know 92 = .ok (.iadd, 1) := by decide +kernel
theorem dX6_know_93 : decode cX6_know 93 = .ok (.putfield 39, 3) := by decide +kernel
theorem dX6_know_96 : decode cX6_know 96 = .ok (.return_, 1) := by decide +kernel
set_option maxRecDepth 20000 in
theorem ggX6_rate_X6_at : GoodIn wsX6_rate wsX6_at := goodIn_r _ [5] (by decide +kernel) (by decide +kernel)
set_option maxRecDepth 20000 in
theorem gX6_rate_X6_at : GoodIn wsX6_rate (va_wsS RX6 43 yX6_at wsX6_at) := goodIn_app (goodIn_of _ (by decide +kernel)) ggX6_rate_X6_at
theorem dX6_rate_0 : decode cX6_rate 0 = .ok (.aload_n 0, 1) := by decide +kernel
theorem dX6_rate_1 : decode cX6_rate 1 = .ok (.getfield 7, 3) := by decide +kernel
theorem dX6_rate_4 : decode cX6_rate 4 = .ok (.iload_n 1, 1) := by decide +kernel
theorem dX6_rate_5 : decode cX6_rate 5 = .ok (.iconst 2, 1) := by decide +kernel
theorem dX6_rate_6 : decode cX6_rate 6 = .ok (.invokestatic 43, 3) := by decide +kernel
theorem dX6_rate_9 : decode cX6_rate 9 = .ok (.iaload, 1) := by decide +kernel
theorem dX6_rate_10 : decode cX6_rate 10 = .ok (.iconst 3, 1) := by decide +kernel
theorem dX6_rate_11 : decode cX6_rate 11 = .ok (.aload_n 0, 1) := by decide +kernel
theorem dX6_rate_12 : decode cX6_rate 12 = .ok (.getfield 7, 3) := by decide +kernel
theorem dX6_rate_15 : decode cX6_rate 15 = .ok (.iload_n 1, 1) := by decide +kernel
theorem dX6_rate_16 : decode cX6_rate 16 = .ok (.iconst 3, 1) := by decide +kernel
theorem dX6_rate_17 : decode cX6_rate 17 = .ok (.invokestatic 43, 3) := by decide +kernel
theorem dX6_rate_20 : decode cX6_rate 20 = .ok (.iaload, 1) := by decide +kernel
theorem dX6_rate_21 : decode cX6_rate 21 = .ok (.imul, 1) := by decide +kernel
theorem dX6_rate_22 : decode cX6_rate 22 = .ok (.iadd, 1) := by decide +kernel
theorem dX6_rate_23 : decode cX6_rate 23 = .ok (.ireturn, 1) := by decide +kernel
set_option maxRecDepth 20000 in
theorem ggX6_isOff_X6_at : GoodIn wsX6_isOff wsX6_at := goodIn_r _ [5] (by decide +kernel) (by decide +kernel)
set_option maxRecDepth 20000 in
theorem gX6_isOff_X6_at : GoodIn wsX6_isOff (va_wsS RX6 43 yX6_at wsX6_at) := goodIn_app (goodIn_of _ (by decide +kernel)) ggX6_isOff_X6_at
set_option maxRecDepth 20000 in
theorem ggX6_isOff_X6_size : GoodIn wsX6_isOff wsX6_size := goodIn_r _ [8] (by decide +kernel) (by decide +kernel)
set_option maxRecDepth 20000 in
theorem gX6_isOff_X6_size : GoodIn wsX6_isOff (va_wsS RX6 47 yX6_size wsX6_size) := goodIn_app (goodIn_of _ (by decide +kernel)) ggX6_isOff_X6_size
theorem dX6_isOff_0 : decode cX6_isOff 0 = .ok (.aload_n 0, 1) := by decide +kernel
theorem dX6_isOff_1 : decode cX6_isOff 1 = .ok (.getfield 7, 3) := by decide +kernel
theorem dX6_isOff_4 : decode cX6_isOff 4 = .ok (.iload_n 1, 1) := by decide +kernel
theorem dX6_isOff_5 : decode cX6_isOff 5 = .ok (.iconst 4, 1) := by decide +kernel
theorem dX6_isOff_6 : decode cX6_isOff 6 = .ok (.invokestatic 43, 3) := by decide +kernel
theorem dX6_isOff_9 : decode cX6_isOff 9 = .ok (.iaload, 1) := by decide +kernel
theorem dX6_isOff_10 : decode cX6_isOff 10 = .ok (.invokestatic 47, 3) := by decide +kernel
theorem dX6_isOff_13 : decode cX6_isOff 13 = .ok (.aload_n 0, 1) := by decide +kernel
theorem dX6_isOff_14 : decode cX6_isOff 14 = .ok (.getfield 7, 3) := by decide +kernel
theorem dX6_isOff_17 : decode cX6_isOff 17 = .ok (.iconst 0, 1) := by decide +kernel
theorem dX6_isOff_18 : decode cX6_isOff 18 = .ok (.iaload, 1) := by decide +kernel
theorem dX6_isOff_19 : decode cX6_isOff 19 = .ok (.if_icmp .le 7, 3) := by decide +kernel
theorem dX6_isOff_22 : decode cX6_isOff 22 = .ok (.iconst 1, 1) := by decide +kernel
theorem dX6_isOff_23 : decode cX6_isOff 23 = .ok (.goto 4, 3) := by decide +kernel
theorem dX6_isOff_26 : decode cX6_isOff 26 = .ok (.iconst 0, 1) := by decide +kernel
theorem dX6_isOff_27 : decode cX6_isOff 27 = .ok (.ireturn, 1) := by decide +kernel
set_option maxRecDepth 20000 in
theorem ggX6_ladderOf_X6_at : GoodIn wsX6_ladderOf wsX6_at := goodIn_r _ [5] (by decide +kernel) (by decide +kernel)
set_option maxRecDepth 20000 in
theorem gX6_ladderOf_X6_at : GoodIn wsX6_ladderOf (va_wsS RX6 43 yX6_at wsX6_at) := goodIn_app (goodIn_of _ (by decide +kernel)) ggX6_ladderOf_X6_at
theorem dX6_ladderOf_0 : decode cX6_ladderOf 0 = .ok (.bipush (-6), 2) := by decide +kernel
theorem dX6_ladderOf_2 : decode cX6_ladderOf 2 = .ok (.istore_n 2, 1) := by decide +kernel
theorem dX6_ladderOf_3 : decode cX6_ladderOf 3 = .ok (.iconst 0, 1) := by decide +kernel
theorem dX6_ladderOf_4 : decode cX6_ladderOf 4 = .ok (.istore_n 3, 1) := by decide +kernel
theorem dX6_ladderOf_5 : decode cX6_ladderOf 5 = .ok (.iload_n 3, 1) := by decide +kernel
theorem dX6_ladderOf_6 : decode cX6_ladderOf 6 = .ok (.aload_n 0, 1) := by decide +kernel
theorem dX6_ladderOf_7 : decode cX6_ladderOf 7 = .ok (.getfield 7, 3) := by decide +kernel
theorem dX6_ladderOf_10 : decode cX6_ladderOf 10 = .ok (.bipush 6, 2) := by decide +kernel
theorem dX6_ladderOf_12 : decode cX6_ladderOf 12 = .ok (.iaload, 1) := by decide +kernel
theorem dX6_ladderOf_13 : decode cX6_ladderOf 13 = .ok (.if_icmp .ge 89, 3) := by decide +kernel
theorem dX6_ladderOf_16 : decode cX6_ladderOf 16 = .ok (.aload_n 0, 1) := by decide +kernel
theorem dX6_ladderOf_17 : decode cX6_ladderOf 17 = .ok (.getfield 7, 3) := by decide +kernel
theorem dX6_ladderOf_20 : decode cX6_ladderOf 20 = .ok (.iload_n 1, 1) := by decide +kernel
theorem dX6_ladderOf_21 : decode cX6_ladderOf 21 = .ok (.iconst 1, 1) := by decide +kernel
theorem dX6_ladderOf_22 : decode cX6_ladderOf 22 = .ok (.invokestatic 43, 3) := by decide +kernel
theorem dX6_ladderOf_25 : decode cX6_ladderOf 25 = .ok (.iaload, 1) := by decide +kernel
theorem dX6_ladderOf_26 : decode cX6_ladderOf 26 = .ok (.ifCond .le 29, 3) := by decide +kernel
theorem dX6_ladderOf_29 : decode cX6_ladderOf 29 = .ok (.aload_n 0, 1) := by decide +kernel
theorem dX6_ladderOf_30 : decode cX6_ladderOf 30 = .ok (.getfield 7, 3) := by decide +kernel
theorem dX6_ladderOf_33 : decode cX6_ladderOf 33 = .ok (.bipush 8, 2) := by decide +kernel
theorem dX6_ladderOf_35 : decode cX6_ladderOf 35 = .ok (.iload_n 3, 1) := by decide +kernel
theorem dX6_ladderOf_36 : decode cX6_ladderOf 36 = .ok (.iadd, 1) := by decide +kernel
theorem dX6_ladderOf_37 : decode cX6_ladderOf 37 = .ok (.iaload, 1) := by decide +kernel
theorem dX6_ladderOf_38 : decode cX6_ladderOf 38 = .ok (.aload_n 0, 1) := by decide +kernel
theorem dX6_ladderOf_39 : decode cX6_ladderOf 39 = .ok (.getfield 7, 3) := by decide +kernel
theorem dX6_ladderOf_42 : decode cX6_ladderOf 42 = .ok (.iload_n 1, 1) := by decide +kernel
theorem dX6_ladderOf_43 : decode cX6_ladderOf 43 = .ok (.iconst 1, 1) := by decide +kernel
theorem dX6_ladderOf_44 : decode cX6_ladderOf 44 = .ok (.invokestatic 43, 3) := by decide +kernel
theorem dX6_ladderOf_47 : decode cX6_ladderOf 47 = .ok (.iaload, 1) := by decide +kernel
theorem dX6_ladderOf_48 : decode cX6_ladderOf 48 = .ok (.if_icmp .lt 7, 3) := by decide +kernel
theorem dX6_ladderOf_51 : decode cX6_ladderOf 51 = .ok (.iconst 1, 1) := by decide +kernel
theorem dX6_ladderOf_52 : decode cX6_ladderOf 52 = .ok (.goto 4, 3) := by decide +kernel
theorem dX6_ladderOf_55 : decode cX6_ladderOf 55 = .ok (.iconst 0, 1) := by decide +kernel
theorem dX6_ladderOf_56 : decode cX6_ladderOf 56 = .ok (.istore 4, 2) := by decide +kernel
theorem dX6_ladderOf_58 : decode cX6_ladderOf 58 = .ok (.iload 4, 2) := by decide +kernel
theorem dX6_ladderOf_60 : decode cX6_ladderOf 60 = .ok (.ifCond .eq 34, 3) := by decide +kernel
theorem dX6_ladderOf_63 : decode cX6_ladderOf 63 = .ok (.iload_n 2, 1) := by decide +kernel
theorem dX6_ladderOf_64 : decode cX6_ladderOf 64 = .ok (.bipush (-6), 2) := by decide +kernel
theorem dX6_ladderOf_66 : decode cX6_ladderOf 66 = .ok (.if_icmp .eq 24, 3) := by decide +kernel
theorem dX6_ladderOf_69 : decode cX6_ladderOf 69 = .ok (.aload_n 0, 1) := by decide +kernel
theorem dX6_ladderOf_70 : decode cX6_ladderOf 70 = .ok (.getfield 7, 3) := by decide +kernel
theorem dX6_ladderOf_73 : decode cX6_ladderOf 73 = .ok (.bipush 8, 2) := by decide +kernel
theorem dX6_ladderOf_75 : decode cX6_ladderOf 75 = .ok (.iload_n 3, 1) := by decide +kernel
theorem dX6_ladderOf_76 : decode cX6_ladderOf 76 = .ok (.iadd, 1) := by decide +kernel
theorem dX6_ladderOf_77 : decode cX6_ladderOf 77 = .ok (.iaload, 1) := by decide +kernel
theorem dX6_ladderOf_78 : decode cX6_ladderOf 78 = .ok (.aload_n 0, 1) := by decide +kernel
theorem dX6_ladderOf_79 : decode cX6_ladderOf 79 = .ok (.getfield 7, 3) := by decide +kernel
theorem dX6_ladderOf_82 : decode cX6_ladderOf 82 = .ok (.bipush 8, 2) := by decide +kernel
theorem dX6_ladderOf_84 : decode cX6_ladderOf 84 = .ok (.iload_n 2, 1) := by decide +kernel
theorem dX6_ladderOf_85 : decode cX6_ladderOf 85 = .ok (.iadd, 1) := by decide +kernel
theorem dX6_ladderOf_86 : decode cX6_ladderOf 86 = .ok (.iaload, 1) := by decide +kernel
theorem dX6_ladderOf_87 : decode cX6_ladderOf 87 = .ok (.if_icmp .ge 7, 3) := by decide +kernel
theorem dX6_ladderOf_90 : decode cX6_ladderOf 90 = .ok (.iload_n 3, 1) := by decide +kernel
theorem dX6_ladderOf_91 : decode cX6_ladderOf 91 = .ok (.goto 4, 3) := by decide +kernel
theorem dX6_ladderOf_94 : decode cX6_ladderOf 94 = .ok (.iload_n 2, 1) := by decide +kernel
theorem dX6_ladderOf_95 : decode cX6_ladderOf 95 = .ok (.istore_n 2, 1) := by decide +kernel
theorem dX6_ladderOf_96 : decode cX6_ladderOf 96 = .ok (.iinc 3 1, 3) := by decide +kernel
theorem dX6_ladderOf_99 : decode cX6_ladderOf 99 = .ok (.goto (-94), 3) := by decide +kernel
theorem dX6_ladderOf_102 : decode cX6_ladderOf 102 = .ok (.iload_n 2, 1) := by decide +kernel
theorem dX6_ladderOf_103 : decode cX6_ladderOf 103 = .ok (.ireturn, 1) := by decide +kernel
set_option maxRecDepth 20000 in
theorem ggX6_canWind_X6_at : GoodIn wsX6_canWind wsX6_at := goodIn_r _ [5] (by decide +kernel) (by decide +kernel)
set_option maxRecDepth 20000 in
theorem gX6_canWind_X6_at : GoodIn wsX6_canWind (va_wsS RX6 43 yX6_at wsX6_at) := goodIn_app (goodIn_of _ (by decide +kernel)) ggX6_canWind_X6_at
set_option maxRecDepth 20000 in
theorem ggX6_canWind_X6_ladderOf : GoodIn wsX6_canWind wsX6_ladderOf := goodIn_r _ [9, 1, 2, 3, 4, 5, 10, 11, 12, 13, 14, 15, 16, 17, 18, 19, 20, 21, 22, 23, 24, 25, 26] (by decide +kernel) (by decide +kernel)
set_option maxRecDepth 20000 in
theorem gX6_canWind_X6_ladderOf : GoodIn wsX6_canWind (wsV RX6 51 RX6 yX6_ladderOf wsX6_ladderOf) := goodIn_app (goodIn_of _ (by decide +kernel)) ggX6_canWind_X6_ladderOf
theorem dX6_canWind_0 : decode cX6_canWind 0 = .ok (.aload_n 0, 1) := by decide +kernel
theorem dX6_canWind_1 : decode cX6_canWind 1 = .ok (.getfield 7, 3) := by decide +kernel
theorem dX6_canWind_4 : decode cX6_canWind 4 = .ok (.iload_n 1, 1) := by decide +kernel
theorem dX6_canWind_5 : decode cX6_canWind 5 = .ok (.iconst 1, 1) := by decide +kernel
theorem dX6_canWind_6 : decode cX6_canWind 6 = .ok (.invokestatic 43, 3) := by decide +kernel
theorem dX6_canWind_9 : decode cX6_canWind 9 = .ok (.iaload, 1) := by decide +kernel
theorem dX6_canWind_10 : decode cX6_canWind 10 = .ok (.ifCond .eq 13, 3) := by decide +kernel
theorem dX6_canWind_13 : decode cX6_canWind 13 = .ok (.aload_n 0, 1) := by decide +kernel
theorem dX6_canWind_14 : decode cX6_canWind 14 = .ok (.iload_n 1, 1) := by decide +kernel
theorem dX6_canWind_15 : decode cX6_canWind 15 = .ok (.invokevirtual 51, 3) := by decide +kernel
theorem dX6_canWind_18 : decode cX6_canWind 18 = .ok (.bipush (-6), 2) := by decide +kernel
theorem dX6_canWind_20 : decode cX6_canWind 20 = .ok (.if_icmp .eq 7, 3) := by decide +kernel
theorem dX6_canWind_23 : decode cX6_canWind 23 = .ok (.iconst 1, 1) := by decide +kernel
theorem dX6_canWind_24 : decode cX6_canWind 24 = .ok (.goto 4, 3) := by decide +kernel
theorem dX6_canWind_27 : decode cX6_canWind 27 = .ok (.iconst 0, 1) := by decide +kernel
theorem dX6_canWind_28 : decode cX6_canWind 28 = .ok (.ireturn, 1) := by decide +kernel
set_option maxRecDepth 20000 in
theorem ggX6_day_X6_at : GoodIn wsX6_day wsX6_at := goodIn_r _ [6] (by decide +kernel) (by decide +kernel)
set_option maxRecDepth 20000 in
theorem gX6_day_X6_at : GoodIn wsX6_day (va_wsS RX6 43 yX6_at wsX6_at) := goodIn_app (goodIn_of _ (by decide +kernel)) ggX6_day_X6_at
set_option maxRecDepth 20000 in
theorem ggX6_day_X6_rate : GoodIn wsX6_day wsX6_rate := goodIn_r _ [10, 1, 3, 4, 5, 6, 11, 12, 13, 14, 15, 16, 17, 18, 19, 20, 21, 22, 23, 24, 25, 26, 27] (by decide +kernel) (by decide +kernel)
set_option maxRecDepth 20000 in
theorem gX6_day_X6_rate : GoodIn wsX6_day (wsV RX6 54 RX6 yX6_rate wsX6_rate) := goodIn_app (goodIn_of _ (by decide +kernel)) ggX6_day_X6_rate
theorem dX6_day_0 : decode cX6_day 0 = .ok (.aload_n 0, 1) := by decide +kernel
theorem dX6_day_1 : decode cX6_day 1 = .ok (.getfield 7, 3) := by decide +kernel
theorem dX6_day_4 : decode cX6_day 4 = .ok (.iload_n 1, 1) := by decide +kernel
theorem dX6_day_5 : decode cX6_day 5 = .ok (.iconst 5, 1) := by decide +kernel
theorem dX6_day_6 : decode cX6_day 6 = .ok (.invokestatic 43, 3) := by decide +kernel
theorem dX6_day_9 : decode cX6_day 9 = .ok (.dup2, 1) := by decide +kernel
theorem dX6_day_10 : decode cX6_day 10 = .ok (.iaload, 1) := by decide +kernel
theorem dX6_day_11 : decode cX6_day 11 = .ok (.iconst 1, 1) := by decide +kernel
theorem dX6_day_12 : decode cX6_day 12 = .ok (.iadd, 1) := by decide +kernel
theorem dX6_day_13 : decode cX6_day 13 = .ok (.iastore, 1) := by decide +kernel
theorem dX6_day_14 : decode cX6_day 14 = .ok (.aload_n 0, 1) := by decide +kernel
theorem dX6_day_15 : decode cX6_day 15 = .ok (.getfield 7, 3) := by decide +kernel
theorem dX6_day_18 : decode cX6_day 18 = .ok (.iload_n 1, 1) := by decide +kernel
theorem dX6_day_19 : decode cX6_day 19 = .ok (.bipush 6, 2) := by decide +kernel
theorem dX6_day_21 : decode cX6_day 21 = .ok (.invokestatic 43, 3) := by decide +kernel
theorem dX6_day_24 : decode cX6_day 24 = .ok (.iaload, 1) := by decide +kernel
theorem dX6_day_25 : decode cX6_day 25 = .ok (.iconst 1, 1) := by decide +kernel
theorem dX6_day_26 : decode cX6_day 26 = .ok (.if_icmp .ne 64, 3) := by decide +kernel
theorem dX6_day_29 : decode cX6_day 29 = .ok (.aload_n 0, 1) := by decide +kernel
theorem dX6_day_30 : decode cX6_day 30 = .ok (.getfield 7, 3) := by decide +kernel
theorem dX6_day_33 : decode cX6_day 33 = .ok (.iload_n 1, 1) := by decide +kernel
theorem dX6_day_34 : decode cX6_day 34 = .ok (.iconst 4, 1) := by decide +kernel
theorem dX6_day_35 : decode cX6_day 35 = .ok (.invokestatic 43, 3) := by decide +kernel
theorem dX6_day_38 : decode cX6_day 38 = .ok (.dup2, 1) := by decide +kernel
theorem dX6_day_39 : decode cX6_day 39 = .ok (.iaload, 1) := by decide +kernel
theorem dX6_day_40 : decode cX6_day 40 = .ok (.aload_n 0, 1) := by decide +kernel
theorem dX6_day_41 : decode cX6_day 41 = .ok (.iload_n 1, 1) := by decide +kernel
theorem dX6_day_42 : decode cX6_day 42 = .ok (.invokevirtual 54, 3) := by decide +kernel
theorem dX6_day_45 : decode cX6_day 45 = .ok (.iadd, 1) := by decide +kernel
theorem dX6_day_46 : decode cX6_day 46 = .ok (.iastore, 1) := by decide +kernel
theorem dX6_day_47 : decode cX6_day 47 = .ok (.aload_n 0, 1) := by decide +kernel
theorem dX6_day_48 : decode cX6_day 48 = .ok (.getfield 7, 3) := by decide +kernel
theorem dX6_day_51 : decode cX6_day 51 = .ok (.iload_n 1, 1) := by decide +kernel
theorem dX6_day_52 : decode cX6_day 52 = .ok (.iconst 5, 1) := by decide +kernel
theorem dX6_day_53 : decode cX6_day 53 = .ok (.invokestatic 43, 3) := by decide +kernel
theorem dX6_day_56 : decode cX6_day 56 = .ok (.iaload, 1) := by decide +kernel
theorem dX6_day_57 : decode cX6_day 57 = .ok (.aload_n 0, 1) := by decide +kernel
theorem dX6_day_58 : decode cX6_day 58 = .ok (.getfield 7, 3) := by decide +kernel
theorem dX6_day_61 : decode cX6_day 61 = .ok (.iconst 1, 1) := by decide +kernel
theorem dX6_day_62 : decode cX6_day 62 = .ok (.iaload, 1) := by decide +kernel
theorem dX6_day_63 : decode cX6_day 63 = .ok (.if_icmp .le 27, 3) := by decide +kernel
theorem dX6_day_66 : decode cX6_day 66 = .ok (.aload_n 0, 1) := by decide +kernel
theorem dX6_day_67 : decode cX6_day 67 = .ok (.getfield 7, 3) := by decide +kernel
theorem dX6_day_70 : decode cX6_day 70 = .ok (.iload_n 1, 1) := by decide +kernel
theorem dX6_day_71 : decode cX6_day 71 = .ok (.bipush 6, 2) := by decide +kernel
theorem dX6_day_73 : decode cX6_day 73 = .ok (.invokestatic 43, 3) := by decide +kernel
theorem dX6_day_76 : decode cX6_day 76 = .ok (.iconst 0, 1) := by decide +kernel
theorem dX6_day_77 : decode cX6_day 77 = .ok (.iastore, 1) := by decide +kernel
theorem dX6_day_78 : decode cX6_day 78 = .ok (.aload_n 0, 1) := by decide +kernel
theorem dX6_day_79 : decode cX6_day 79 = .ok (.getfield 7, 3) := by decide +kernel
theorem dX6_day_82 : decode cX6_day 82 = .ok (.iload_n 1, 1) := by decide +kernel
theorem dX6_day_83 : decode cX6_day 83 = .ok (.iconst 4, 1) := by decide +kernel
theorem dX6_day_84 : decode cX6_day 84 = .ok (.invokestatic 43, 3) := by decide +kernel
theorem dX6_day_87 : decode cX6_day 87 = .ok (.ldc 57, 2) := by decide +kernel
theorem dX6_day_89 : decode cX6_day 89 = .ok (.iastore, 1) := by decide +kernel
theorem dX6_day_90 : decode cX6_day 90 = .ok (.return_, 1) := by decide +kernel
set_option maxRecDepth 20000 in
theorem ggX6_way_X6_size : GoodIn wsX6_way wsX6_size := goodIn_r _ [5] (by decide +kernel) (by decide +kernel)
set_option maxRecDepth 20000 in
theorem gX6_way_X6_size : GoodIn wsX6_way (va_wsS RX6 47 yX6_size wsX6_size) := goodIn_app (goodIn_of _ (by decide +kernel)) ggX6_way_X6_size
theorem dX6_way_0 : decode cX6_way 0 = .ok (.iload_n 1, 1) := by decide +kernel
theorem dX6_way_1 : decode cX6_way 1 = .ok (.iload_n 2, 1) := by decide +kernel
theorem dX6_way_2 : decode cX6_way 2 = .ok (.isub, 1) := by decide +kernel
theorem dX6_way_3 : decode cX6_way 3 = .ok (.invokestatic 47, 3) := by decide +kernel
theorem dX6_way_6 : decode cX6_way 6 = .ok (.aload_n 0, 1) := by decide +kernel
theorem dX6_way_7 : decode cX6_way 7 = .ok (.getfield 7, 3) := by decide +kernel
theorem dX6_way_10 : decode cX6_way 10 = .ok (.iconst 2, 1) := by decide +kernel
theorem dX6_way_11 : decode cX6_way 11 = .ok (.iaload, 1) := by decide +kernel
theorem dX6_way_12 : decode cX6_way 12 = .ok (.imul, 1) := by decide +kernel
theorem dX6_way_13 : decode cX6_way 13 = .ok (.ireturn, 1) := by decide +kernel
set_option maxRecDepth 20000 in
theorem ggX6_minutes_X6_ladderOf : GoodIn wsX6_minutes wsX6_ladderOf := goodIn_r _ [8, 3, 9, 10, 7, 11, 23, 24, 25, 26, 27, 28, 29, 30, 31, 32, 33, 34, 35, 36, 37, 38, 39] (by decide +kernel) (by decide +kernel)
set_option maxRecDepth 20000 in
theorem gX6_minutes_X6_ladderOf : GoodIn wsX6_minutes (wsV RX6 51 RX6 yX6_ladderOf wsX6_ladderOf) := goodIn_app (goodIn_of _ (by decide +kernel)) ggX6_minutes_X6_ladderOf
set_option maxRecDepth 20000 in
theorem ggX6_minutes_X6_at : GoodIn wsX6_minutes wsX6_at := goodIn_r _ [11] (by decide +kernel) (by decide +kernel)
set_option maxRecDepth 20000 in
theorem gX6_minutes_X6_at : GoodIn wsX6_minutes (va_wsS RX6 43 yX6_at wsX6_at) := goodIn_app (goodIn_of _ (by decide +kernel)) ggX6_minutes_X6_at
set_option maxRecDepth 20000 in
theorem ggX6_minutes_X6_way : GoodIn wsX6_minutes wsX6_way := goodIn_r _ [15, 3, 16, 17, 7, 18, 23, 24, 25, 26, 27, 28, 29, 30, 31, 32, 33, 34, 35, 36, 37, 38, 39] (by decide +kernel) (by decide +kernel)
set_option maxRecDepth 20000 in
theorem gX6_minutes_X6_way : GoodIn wsX6_minutes (wsV RX6 61 RX6 yX6_way wsX6_way) := goodIn_app (goodIn_of _ (by decide +kernel)) ggX6_minutes_X6_way
set_option maxRecDepth 20000 in
theorem ggX6_minutes_X6_canWind : GoodIn wsX6_minutes wsX6_canWind := goodIn_r _ [22, 3, 9, 10, 7, 11, 4, 5, 6, 8, 23, 24, 25, 26, 27, 28, 29, 30, 31, 32, 33, 34, 35, 36, 37, 38, 39] (by decide +kernel) (by decide +kernel)
set_option maxRecDepth 20000 in
theorem gX6_minutes_X6_canWind : GoodIn wsX6_minutes (wsV RX6 64 RX6 yX6_canWind wsX6_canWind) := goodIn_app (goodIn_of _ (by decide +kernel)) ggX6_minutes_X6_canWind
theorem dX6_minutes_0 : decode cX6_minutes 0 = .ok (.iconst 0, 1) := by decide +kernel
theorem dX6_minutes_1 : decode cX6_minutes 1 = .ok (.istore_n 1, 1) := by decide +kernel
theorem dX6_minutes_2 : decode cX6_minutes 2 = .ok (.iconst 0, 1) := by decide +kernel
theorem dX6_minutes_3 : decode cX6_minutes 3 = .ok (.istore_n 2, 1) := by decide +kernel
theorem dX6_minutes_4 : decode cX6_minutes 4 = .ok (.bipush (-6), 2) := by decide +kernel
theorem dX6_minutes_6 : decode cX6_minutes 6 = .ok (.istore_n 3, 1) := by decide +kernel
theorem dX6_minutes_7 : decode cX6_minutes 7 = .ok (.iconst 0, 1) := by decide +kernel
theorem dX6_minutes_8 : decode cX6_minutes 8 = .ok (.istore 4, 2) := by decide +kernel
theorem dX6_minutes_10 : decode cX6_minutes 10 = .ok (.iload 4, 2) := by decide +kernel
theorem dX6_minutes_12 : decode cX6_minutes 12 = .ok (.aload_n 0, 1) := by decide +kernel
theorem dX6_minutes_13 : decode cX6_minutes 13 = .ok (.getfield 58, 3) := by decide +kernel
theorem dX6_minutes_16 : decode cX6_minutes 16 = .ok (.if_icmp .ge 112, 3) := by decide +kernel
theorem dX6_minutes_19 : decode cX6_minutes 19 = .ok (.aload_n 0, 1) := by decide +kernel
theorem dX6_minutes_20 : decode cX6_minutes 20 = .ok (.getfield 29, 3) := by decide +kernel
theorem dX6_minutes_23 : decode cX6_minutes 23 = .ok (.iload 4, 2) := by decide +kernel
theorem dX6_minutes_25 : decode cX6_minutes 25 = .ok (.iaload, 1) := by decide +kernel
theorem dX6_minutes_26 : decode cX6_minutes 26 = .ok (.istore 5, 2) := by decide +kernel
theorem dX6_minutes_28 : decode cX6_minutes 28 = .ok (.aload_n 0, 1) := by decide +kernel
theorem dX6_minutes_29 : decode cX6_minutes 29 = .ok (.iload 5, 2) := by decide +kernel
theorem dX6_minutes_31 : decode cX6_minutes 31 = .ok (.invokevirtual 51, 3) := by decide +kernel
theorem dX6_minutes_34 : decode cX6_minutes 34 = .ok (.istore 6, 2) := by decide +kernel
theorem dX6_minutes_36 : decode cX6_minutes 36 = .ok (.aload_n 0, 1) := by decide +kernel
theorem dX6_minutes_37 : decode cX6_minutes 37 = .ok (.getfield 7, 3) := by decide +kernel
theorem dX6_minutes_40 : decode cX6_minutes 40 = .ok (.iload 5, 2) := by decide +kernel
theorem dX6_minutes_42 : decode cX6_minutes 42 = .ok (.iconst 0, 1) := by decide +kernel
theorem dX6_minutes_43 : decode cX6_minutes 43 = .ok (.invokestatic 43, 3) := by decide +kernel
theorem dX6_minutes_46 : decode cX6_minutes 46 = .ok (.iaload, 1) := by decide +kernel
theorem dX6_minutes_47 : decode cX6_minutes 47 = .ok (.istore 7, 2) := by decide +kernel
theorem dX6_minutes_49 : decode cX6_minutes 49 = .ok (.iload_n 1, 1) := by decide +kernel
theorem dX6_minutes_50 : decode cX6_minutes 50 = .ok (.aload_n 0, 1) := by decide +kernel
theorem dX6_minutes_51 : decode cX6_minutes 51 = .ok (.iload_n 2, 1) := by decide +kernel
theorem dX6_minutes_52 : decode cX6_minutes 52 = .ok (.iload 7, 2) := by decide +kernel
theorem dX6_minutes_54 : decode cX6_minutes 54 = .ok (.invokevirtual 61, 3) := by decide +kernel
theorem dX6_minutes_57 : decode cX6_minutes 57 = .ok (.iadd, 1) := by decide +kernel
theorem dX6_minutes_58 : decode cX6_minutes 58 = .ok (.istore_n 1, 1) := by decide +kernel
theorem dX6_minutes_59 : decode cX6_minutes 59 = .ok (.iload 7, 2) := by decide +kernel
theorem dX6_minutes_61 : decode cX6_minutes 61 = .ok (.istore_n 2, 1) := by decide +kernel
theorem dX6_minutes_62 : decode cX6_minutes 62 = .ok (.aload_n 0, 1) := by decide +kernel
theorem dX6_minutes_63 : decode cX6_minutes 63 = .ok (.iload 5, 2) := by decide +kernel
theorem dX6_minutes_65 : decode cX6_minutes 65 = .ok (.invokevirtual 64, 3) := by decide +kernel
theorem dX6_minutes_68 : decode cX6_minutes 68 = .ok (.ifCond .eq 54, 3) := by decide +kernel
theorem dX6_minutes_71 : decode cX6_minutes 71 = .ok (.iload_n 1, 1) := by decide +kernel
theorem dX6_minutes_72 : decode cX6_minutes 72 = .ok (.aload_n 0, 1) := by decide +kernel
theorem dX6_minutes_73 : decode cX6_minutes 73 = .ok (.getfield 7, 3) := by decide +kernel
theorem dX6_minutes_76 : decode cX6_minutes 76 = .ok (.iconst 3, 1) := by decide +kernel
theorem dX6_minutes_77 : decode cX6_minutes 77 = .ok (.iaload, 1) := by decide +kernel
theorem dX6_minutes_78 : decode cX6_minutes 78 = .ok (.iadd, 1) := by decide +kernel
theorem dX6_minutes_79 : decode cX6_minutes 79 = .ok (.istore_n 1, 1) := by decide +kernel
theorem dX6_minutes_80 : decode cX6_minutes 80 = .ok (.iload_n 1, 1) := by decide +kernel
theorem dX6_minutes_81 : decode cX6_minutes 81 = .ok (.iload 6, 2) := by decide +kernel
theorem dX6_minutes_83 : decode cX6_minutes 83 = .ok (.bipush (-6), 2) := by decide +kernel
theorem dX6_minutes_85 : decode cX6_minutes 85 = .ok (.if_icmp .eq 9, 3) := by decide +kernel
theorem dX6_minutes_88 : decode cX6_minutes 88 = .ok (.iload 6, 2) := by decide +kernel
theorem dX6_minutes_90 : decode cX6_minutes 90 = .ok (.iload_n 3, 1) := by decide +kernel
theorem dX6_minutes_91 : decode cX6_minutes 91 = .ok (.if_icmp .ne 7, 3) := by decide +kernel
theorem dX6_minutes_94 : decode cX6_minutes 94 = .ok (.iconst 0, 1) := by decide +kernel
theorem dX6_minutes_95 : decode cX6_minutes 95 = .ok (.goto 11, 3) := by decide +kernel
theorem dX6_minutes_98 : decode cX6_minutes 98 = .ok (.iconst 2, 1) := by decide +kernel
theorem dX6_minutes_99 : decode cX6_minutes 99 = .ok (.aload_n 0, 1) := by decide +kernel
theorem dX6_minutes_100 : decode cX6_minutes 100 = .ok (.iload_n 2, 1) := by decide +kernel
theorem dX6_minutes_101 : decode cX6_minutes 101 = .ok (.iconst 0, 1) := by decide +kernel
theorem dX6_minutes_102 : decode cX6_minutes 102 = .ok (.invokevirtual 61, 3) := by decide +kernel
theorem dX6_minutes_105 : decode cX6_minutes 105 = .ok (.imul, 1) := by decide +kernel
theorem dX6_minutes_106 : decode cX6_minutes 106 = .ok (.iadd, 1) := by decide +kernel
theorem dX6_minutes_107 : decode cX6_minutes 107 = .ok (.istore_n 1, 1) := by decide +kernel
theorem dX6_minutes_108 : decode cX6_minutes 108 = .ok (.iload 6, 2) := by decide +kernel
theorem dX6_minutes_110 : decode cX6_minutes 110 = .ok (.bipush (-6), 2) := by decide +kernel
theorem dX6_minutes_112 : decode cX6_minutes 112 = .ok (.if_icmp .ne 7, 3) := by decide +kernel
theorem dX6_minutes_115 : decode cX6_minutes 115 = .ok (.iload_n 3, 1) := by decide +kernel
theorem dX6_minutes_116 : decode cX6_minutes 116 = .ok (.goto 5, 3) := by decide +kernel
theorem dX6_minutes_119 : decode cX6_minutes 119 = .ok (.iload 6, 2) := by decide +kernel
theorem dX6_minutes_121 : decode cX6_minutes 121 = .ok (.istore_n 3, 1) := by decide +kernel
theorem dX6_minutes_122 : decode cX6_minutes 122 = .ok (.iinc 4 1, 3) := by decide +kernel
theorem dX6_minutes_125 : decode cX6_minutes 125 = .ok (.goto (-115), 3) := by decide +kernel
theorem dX6_minutes_128 : decode cX6_minutes 128 = .ok (.iload_n 1, 1) := by decide +kernel
theorem dX6_minutes_129 : decode cX6_minutes 129 = .ok (.aload_n 0, 1) := by decide +kernel
theorem dX6_minutes_130 : decode cX6_minutes 130 = .ok (.iload_n 2, 1) := by decide +kernel
theorem dX6_minutes_131 : decode cX6_minutes 131 = .ok (.iconst 0, 1) := by decide +kernel
theorem dX6_minutes_132 : decode cX6_minutes 132 = .ok (.invokevirtual 61, 3) := by decide +kernel
theorem dX6_minutes_135 : decode cX6_minutes 135 = .ok (.iadd, 1) := by decide +kernel
theorem dX6_minutes_136 : decode cX6_minutes 136 = .ok (.ireturn, 1) := by decide +kernel
set_option maxRecDepth 20000 in
theorem ggX6_work_X6_rate : GoodIn wsX6_work wsX6_rate := goodIn_r _ [6, 1, 7, 8, 5, 9, 16, 17, 18, 19, 20, 21, 22, 23, 24, 25, 26, 27, 28, 29, 30, 31, 32] (by decide +kernel) (by decide +kernel)
set_option maxRecDepth 20000 in
theorem gX6_work_X6_rate : GoodIn wsX6_work (wsV RX6 54 RX6 yX6_rate wsX6_rate) := goodIn_app (goodIn_of _ (by decide +kernel)) ggX6_work_X6_rate
set_option maxRecDepth 20000 in
theorem ggX6_work_X6_at : GoodIn wsX6_work wsX6_at := goodIn_r _ [9] (by decide +kernel) (by decide +kernel)
set_option maxRecDepth 20000 in
theorem gX6_work_X6_at : GoodIn wsX6_work (va_wsS RX6 43 yX6_at wsX6_at) := goodIn_app (goodIn_of _ (by decide +kernel)) ggX6_work_X6_at
set_option maxRecDepth 20000 in
theorem ggX6_work_X6_size : GoodIn wsX6_work wsX6_size := goodIn_r _ [12] (by decide +kernel) (by decide +kernel)
set_option maxRecDepth 20000 in
theorem gX6_work_X6_size : GoodIn wsX6_work (va_wsS RX6 47 yX6_size wsX6_size) := goodIn_app (goodIn_of _ (by decide +kernel)) ggX6_work_X6_size
set_option maxRecDepth 20000 in
theorem ggX6_work_X6_in : GoodIn wsX6_work wsX6_in := goodIn_r _ [15] (by decide +kernel) (by decide +kernel)
set_option maxRecDepth 20000 in
theorem gX6_work_X6_in : GoodIn wsX6_work (va_wsS RX6 35 yX6_in wsX6_in) := goodIn_app (goodIn_of _ (by decide +kernel)) ggX6_work_X6_in
theorem dX6_work_0 : decode cX6_work 0 = .ok (.aload_n 0, 1) := by decide +kernel
theorem dX6_work_1 : decode cX6_work 1 = .ok (.iload_n 1, 1) := by decide +kernel
theorem dX6_work_2 : decode cX6_work 2 = .ok (.invokevirtual 54, 3) := by decide +kernel
theorem dX6_work_5 : decode cX6_work 5 = .ok (.istore_n 2, 1) := by decide +kernel
theorem dX6_work_6 : decode cX6_work 6 = .ok (.aload_n 0, 1) := by decide +kernel
theorem dX6_work_7 : decode cX6_work 7 = .ok (.getfield 7, 3) := by decide +kernel
theorem dX6_work_10 : decode cX6_work 10 = .ok (.iload_n 1, 1) := by decide +kernel
theorem dX6_work_11 : decode cX6_work 11 = .ok (.iconst 3, 1) := by decide +kernel
theorem dX6_work_12 : decode cX6_work 12 = .ok (.invokestatic 43, 3) := by decide +kernel
theorem dX6_work_15 : decode cX6_work 15 = .ok (.iaload, 1) := by decide +kernel
theorem dX6_work_16 : decode cX6_work 16 = .ok (.istore_n 3, 1) := by decide +kernel
theorem dX6_work_17 : decode cX6_work 17 = .ok (.aload_n 0, 1) := by decide +kernel
theorem dX6_work_18 : decode cX6_work 18 = .ok (.getfield 7, 3) := by decide +kernel
theorem dX6_work_21 : decode cX6_work 21 = .ok (.iload_n 1, 1) := by decide +kernel
theorem dX6_work_22 : decode cX6_work 22 = .ok (.bipush 6, 2) := by decide +kernel
theorem dX6_work_24 : decode cX6_work 24 = .ok (.invokestatic 43, 3) := by decide +kernel
theorem dX6_work_27 : decode cX6_work 27 = .ok (.iaload, 1) := by decide +kernel
theorem dX6_work_28 : decode cX6_work 28 = .ok (.iconst 1, 1) := by decide +kernel
theorem dX6_work_29 : decode cX6_work 29 = .ok (.if_icmp .ne 82, 3) := by decide +kernel
theorem dX6_work_32 : decode cX6_work 32 = .ok (.aload_n 0, 1) := by decide +kernel
theorem dX6_work_33 : decode cX6_work 33 = .ok (.getfield 7, 3) := by decide +kernel
theorem dX6_work_36 : decode cX6_work 36 = .ok (.iload_n 1, 1) := by decide +kernel
theorem dX6_work_37 : decode cX6_work 37 = .ok (.iconst 4, 1) := by decide +kernel
theorem dX6_work_38 : decode cX6_work 38 = .ok (.invokestatic 43, 3) := by decide +kernel
theorem dX6_work_41 : decode cX6_work 41 = .ok (.iaload, 1) := by decide +kernel
theorem dX6_work_42 : decode cX6_work 42 = .ok (.invokestatic 47, 3) := by decide +kernel
theorem dX6_work_45 : decode cX6_work 45 = .ok (.aload_n 0, 1) := by decide +kernel
theorem dX6_work_46 : decode cX6_work 46 = .ok (.getfield 7, 3) := by decide +kernel
theorem dX6_work_49 : decode cX6_work 49 = .ok (.iconst 0, 1) := by decide +kernel
theorem dX6_work_50 : decode cX6_work 50 = .ok (.iaload, 1) := by decide +kernel
theorem dX6_work_51 : decode cX6_work 51 = .ok (.iconst 2, 1) := by decide +kernel
theorem dX6_work_52 : decode cX6_work 52 = .ok (.idiv, 1) := by decide +kernel
theorem dX6_work_53 : decode cX6_work 53 = .ok (.if_icmp .le 58, 3) := by decide +kernel
theorem dX6_work_56 : decode cX6_work 56 = .ok (.iload_n 3, 1) := by decide +kernel
theorem dX6_work_57 : decode cX6_work 57 = .ok (.iload_n 2, 1) := by decide +kernel
theorem dX6_work_58 : decode cX6_work 58 = .ok (.ifCond .le 7, 3) := by decide +kernel
theorem dX6_work_61 : decode cX6_work 61 = .ok (.iconst (-1), 1) := by decide +kernel
theorem dX6_work_62 : decode cX6_work 62 = .ok (.goto 12, 3) := by decide +kernel
theorem dX6_work_65 : decode cX6_work 65 = .ok (.iload_n 2, 1) := by decide +kernel
theorem dX6_work_66 : decode cX6_work 66 = .ok (.ifCond .ge 7, 3) := by decide +kernel
theorem dX6_work_69 : decode cX6_work 69 = .ok (.iconst 1, 1) := by decide +kernel
theorem dX6_work_70 : decode cX6_work 70 = .ok (.goto 4, 3) := by decide +kernel
theorem dX6_work_73 : decode cX6_work 73 = .ok (.iconst 0, 1) := by decide +kernel
theorem dX6_work_74 : decode cX6_work 74 = .ok (.iadd, 1) := by decide +kernel
theorem dX6_work_75 : decode cX6_work 75 = .ok (.istore_n 3, 1) := by decide +kernel
theorem dX6_work_76 : decode cX6_work 76 = .ok (.aload_n 0, 1) := by decide +kernel
theorem dX6_work_77 : decode cX6_work 77 = .ok (.getfield 7, 3) := by decide +kernel
theorem dX6_work_80 : decode cX6_work 80 = .ok (.iload_n 1, 1) := by decide +kernel
theorem dX6_work_81 : decode cX6_work 81 = .ok (.iconst 3, 1) := by decide +kernel
theorem dX6_work_82 : decode cX6_work 82 = .ok (.invokestatic 43, 3) := by decide +kernel
theorem dX6_work_85 : decode cX6_work 85 = .ok (.iload_n 3, 1) := by decide +kernel
theorem dX6_work_86 : decode cX6_work 86 = .ok (.bipush (-20), 2) := by decide +kernel
theorem dX6_work_88 : decode cX6_work 88 = .ok (.bipush 20, 2) := by decide +kernel
theorem dX6_work_90 : decode cX6_work 90 = .ok (.invokestatic 35, 3) := by decide +kernel
theorem dX6_work_93 : decode cX6_work 93 = .ok (.ifCond .eq 7, 3) := by decide +kernel
theorem dX6_work_96 : decode cX6_work 96 = .ok (.iload_n 3, 1) := by decide +kernel
theorem dX6_work_97 : decode cX6_work 97 = .ok (.goto 13, 3) := by decide +kernel
theorem dX6_work_100 : decode cX6_work 100 = .ok (.aload_n 0, 1) := by decide +kernel
theorem dX6_work_101 : decode cX6_work 101 = .ok (.getfield 7, 3) := by decide +kernel
theorem dX6_work_104 : decode cX6_work 104 = .ok (.iload_n 1, 1) := by decide +kernel
theorem dX6_work_105 : decode cX6_work 105 = .ok (.iconst 3, 1) := by decide +kernel
theorem dX6_work_106 : decode cX6_work 106 = .ok (.invokestatic 43, 3) := by decide +kernel
theorem dX6_work_109 : decode cX6_work 109 = .ok (.iaload, 1) := by decide +kernel
theorem dX6_work_110 : decode cX6_work 110 = .ok (.iastore, 1) := by decide +kernel
theorem dX6_work_111 : decode cX6_work 111 = .ok (.aload_n 0, 1) := by decide +kernel
theorem dX6_work_112 : decode cX6_work 112 = .ok (.getfield 7, 3) := by decide +kernel
theorem dX6_work_115 : decode cX6_work 115 = .ok (.iload_n 1, 1) := by decide +kernel
theorem dX6_work_116 : decode cX6_work 116 = .ok (.bipush 6, 2) := by decide +kernel
theorem dX6_work_118 : decode cX6_work 118 = .ok (.invokestatic 43, 3) := by decide +kernel
theorem dX6_work_121 : decode cX6_work 121 = .ok (.iconst 1, 1) := by decide +kernel
theorem dX6_work_122 : decode cX6_work 122 = .ok (.iastore, 1) := by decide +kernel
theorem dX6_work_123 : decode cX6_work 123 = .ok (.aload_n 0, 1) := by decide +kernel
theorem dX6_work_124 : decode cX6_work 124 = .ok (.getfield 7, 3) := by decide +kernel
theorem dX6_work_127 : decode cX6_work 127 = .ok (.iload_n 1, 1) := by decide +kernel
theorem dX6_work_128 : decode cX6_work 128 = .ok (.iconst 4, 1) := by decide +kernel
theorem dX6_work_129 : decode cX6_work 129 = .ok (.invokestatic 43, 3) := by decide +kernel
theorem dX6_work_132 : decode cX6_work 132 = .ok (.iconst 0, 1) := by decide +kernel
theorem dX6_work_133 : decode cX6_work 133 = .ok (.iastore, 1) := by decide +kernel
theorem dX6_work_134 : decode cX6_work 134 = .ok (.aload_n 0, 1) := by decide +kernel
theorem dX6_work_135 : decode cX6_work 135 = .ok (.getfield 7, 3) := by decide +kernel
theorem dX6_work_138 : decode cX6_work 138 = .ok (.iload_n 1, 1) := by decide +kernel
theorem dX6_work_139 : decode cX6_work 139 = .ok (.iconst 5, 1) := by decide +kernel
theorem dX6_work_140 : decode cX6_work 140 = .ok (.invokestatic 43, 3) := by decide +kernel
theorem dX6_work_143 : decode cX6_work 143 = .ok (.iconst 0, 1) := by decide +kernel
theorem dX6_work_144 : decode cX6_work 144 = .ok (.iastore, 1) := by decide +kernel
theorem dX6_work_145 : decode cX6_work 145 = .ok (.aload_n 0, 1) := by decide +kernel
theorem dX6_work_146 : decode cX6_work 146 = .ok (.getfield 7, 3) := by decide +kernel
theorem dX6_work_149 : decode cX6_work 149 = .ok (.iload_n 1, 1) := by decide +kernel
theorem dX6_work_150 : decode cX6_work 150 = .ok (.bipush 7, 2) := by decide +kernel
theorem dX6_work_152 : decode cX6_work 152 = .ok (.invokestatic 43, 3) := by decide +kernel
theorem dX6_work_155 : decode cX6_work 155 = .ok (.dup2, 1) := by decide +kernel
theorem dX6_work_156 : decode cX6_work 156 = .ok (.iaload, 1) := by decide +kernel
theorem dX6_work_157 : decode cX6_work 157 = .ok (.iconst 1, 1) := by decide +kernel
theorem dX6_work_158 : decode cX6_work 158 = .ok (.iadd, 1) := by decide +kernel
theorem dX6_work_159 : decode cX6_work 159 = .ok (.iastore, 1) := by decide +kernel
theorem dX6_work_160 : decode cX6_work 160 = .ok (.return_, 1) := by decide +kernel
set_option maxRecDepth 20000 in
theorem ggX6_goes_X6_minutes : GoodIn wsX6_goes wsX6_minutes := goodIn_r _ [8, 1, 2, 3, 9, 10, 11, 7, 12, 13, 14, 15, 16, 17, 18, 19, 20, 21, 22, 23, 24, 25, 26, 38, 39, 40, 41, 42, 43, 44, 45, 46, 47, 48, 49, 50, 51, 52, 53, 54] (by decide +kernel) (by decide +kernel)
set_option maxRecDepth 20000 in
theorem gX6_goes_X6_minutes : GoodIn wsX6_goes (wsV RX6 68 RX6 yX6_minutes wsX6_minutes) := goodIn_app (goodIn_of _ (by decide +kernel)) ggX6_goes_X6_minutes
set_option maxRecDepth 20000 in
theorem ggX6_goes_X6_canWind : GoodIn wsX6_goes wsX6_canWind := goodIn_r _ [26, 3, 13, 14, 7, 15, 9, 10, 11, 12, 38, 39, 40, 41, 42, 43, 44, 45, 46, 47, 48, 49, 50, 51, 52, 53, 54] (by decide +kernel) (by decide +kernel)
set_option maxRecDepth 20000 in
theorem gX6_goes_X6_canWind : GoodIn wsX6_goes (wsV RX6 64 RX6 yX6_canWind wsX6_canWind) := goodIn_app (goodIn_of _ (by decide +kernel)) ggX6_goes_X6_canWind
set_option maxRecDepth 20000 in
theorem ggX6_goes_X6_work : GoodIn wsX6_goes wsX6_work := goodIn_r _ [30, 3, 31, 32, 33, 7, 34, 13, 14, 15, 20, 21, 22, 35, 36, 37, 38, 39, 40, 41, 42, 43, 44, 45, 46, 47, 48, 49, 50, 51, 52, 53, 54] (by decide +kernel) (by decide +kernel)
set_option maxRecDepth 20000 in
theorem gX6_goes_X6_work : GoodIn wsX6_goes (wsV RX6 72 RX6 yX6_work wsX6_work) := goodIn_app (goodIn_of _ (by decide +kernel)) ggX6_goes_X6_work
theorem dX6_goes_0 : decode cX6_goes 0 = .ok (.aload_n 0, 1) := by decide +kernel
theorem dX6_goes_1 : decode cX6_goes 1 = .ok (.invokevirtual 68, 3) := by decide +kernel
theorem dX6_goes_4 : decode cX6_goes 4 = .ok (.istore_n 1, 1) := by decide +kernel
theorem dX6_goes_5 : decode cX6_goes 5 = .ok (.iconst 0, 1) := by decide +kernel
theorem dX6_goes_6 : decode cX6_goes 6 = .ok (.istore_n 2, 1) := by decide +kernel
theorem dX6_goes_7 : decode cX6_goes 7 = .ok (.iload_n 2, 1) := by decide +kernel
theorem dX6_goes_8 : decode cX6_goes 8 = .ok (.aload_n 0, 1) := by decide +kernel
theorem dX6_goes_9 : decode cX6_goes 9 = .ok (.getfield 58, 3) := by decide +kernel
theorem dX6_goes_12 : decode cX6_goes 12 = .ok (.if_icmp .ge 32, 3) := by decide +kernel
theorem dX6_goes_15 : decode cX6_goes 15 = .ok (.aload_n 0, 1) := by decide +kernel
theorem dX6_goes_16 : decode cX6_goes 16 = .ok (.aload_n 0, 1) := by decide +kernel
theorem dX6_goes_17 : decode cX6_goes 17 = .ok (.getfield 29, 3) := by decide +kernel
theorem dX6_goes_20 : decode cX6_goes 20 = .ok (.iload_n 2, 1) := by decide +kernel
theorem dX6_goes_21 : decode cX6_goes 21 = .ok (.iaload, 1) := by decide +kernel
theorem dX6_goes_22 : decode cX6_goes 22 = .ok (.invokevirtual 64, 3) := by decide +kernel
theorem dX6_goes_25 : decode cX6_goes 25 = .ok (.ifCond .eq 13, 3) := by decide +kernel
theorem dX6_goes_28 : decode cX6_goes 28 = .ok (.aload_n 0, 1) := by decide +kernel
theorem dX6_goes_29 : decode cX6_goes 29 = .ok (.aload_n 0, 1) := by decide +kernel
theorem dX6_goes_30 : decode cX6_goes 30 = .ok (.getfield 29, 3) := by decide +kernel
theorem dX6_goes_33 : decode cX6_goes 33 = .ok (.iload_n 2, 1) := by decide +kernel
theorem dX6_goes_34 : decode cX6_goes 34 = .ok (.iaload, 1) := by decide +kernel
theorem dX6_goes_35 : decode cX6_goes 35 = .ok (.invokevirtual 72, 3) := by decide +kernel
theorem dX6_goes_38 : decode cX6_goes 38 = .ok (.iinc 2 1, 3) := by decide +kernel
theorem dX6_goes_41 : decode cX6_goes 41 = .ok (.goto (-34), 3) := by decide +kernel
theorem dX6_goes_44 : decode cX6_goes 44 = .ok (.aload_n 0, 1) := by decide +kernel
theorem dX6_goes_45 : decode cX6_goes 45 = .ok (.getfield 7, 3) := by decide +kernel
theorem dX6_goes_48 : decode cX6_goes 48 = .ok (.bipush 7, 2) := by decide +kernel
theorem dX6_goes_50 : decode cX6_goes 50 = .ok (.dup2, 1) := by decide +kernel
theorem dX6_goes_51 : decode cX6_goes 51 = .ok (.iaload, 1) := by decide +kernel
theorem dX6_goes_52 : decode cX6_goes 52 = .ok (.iload_n 1, 1) := by decide +kernel
theorem dX6_goes_53 : decode cX6_goes 53 = .ok (.iadd, 1) := by decide +kernel
theorem dX6_goes_54 : decode cX6_goes 54 = .ok (.iastore, 1) := by decide +kernel
theorem dX6_goes_55 : decode cX6_goes 55 = .ok (.iload_n 1, 1) := by decide +kernel
theorem dX6_goes_56 : decode cX6_goes 56 = .ok (.ireturn, 1) := by decide +kernel
theorem dX6_layOut_0 : decode cX6_layOut 0 = .ok (.aload_n 0, 1) := by decide +kernel
theorem dX6_layOut_1 : decode cX6_layOut 1 = .ok (.iconst 0, 1) := by decide +kernel
theorem dX6_layOut_2 : decode cX6_layOut 2 = .ok (.putfield 58, 3) := by decide +kernel
theorem dX6_layOut_5 : decode cX6_layOut 5 = .ok (.iconst 0, 1) := by decide +kernel
theorem dX6_layOut_6 : decode cX6_layOut 6 = .ok (.istore_n 3, 1) := by decide +kernel
theorem dX6_layOut_7 : decode cX6_layOut 7 = .ok (.iload_n 3, 1) := by decide +kernel
theorem dX6_layOut_8 : decode cX6_layOut 8 = .ok (.aload_n 0, 1) := by decide +kernel
theorem dX6_layOut_9 : decode cX6_layOut 9 = .ok (.getfield 7, 3) := by decide +kernel
theorem dX6_layOut_12 : decode cX6_layOut 12 = .ok (.iconst 5, 1) := by decide +kernel
theorem dX6_layOut_13 : decode cX6_layOut 13 = .ok (.iaload, 1) := by decide +kernel
theorem dX6_layOut_14 : decode cX6_layOut 14 = .ok (.if_icmp .ge 60, 3) := by decide +kernel
theorem dX6_layOut_17 : decode cX6_layOut 17 = .ok (.iload_n 2, 1) := by decide +kernel
theorem dX6_layOut_18 : decode cX6_layOut 18 = .ok (.ifCond .eq 16, 3) := by decide +kernel
theorem dX6_layOut_21 : decode cX6_layOut 21 = .ok (.aload_n 0, 1) := by decide +kernel
theorem dX6_layOut_22 : decode cX6_layOut 22 = .ok (.getfield 7, 3) := by decide +kernel
theorem dX6_layOut_25 : decode cX6_layOut 25 = .ok (.iconst 5, 1) := by decide +kernel
theorem dX6_layOut_26 : decode cX6_layOut 26 = .ok (.iaload, 1) := by decide +kernel
theorem dX6_layOut_27 : decode cX6_layOut 27 = .ok (.iconst 1, 1) := by decide +kernel
theorem dX6_layOut_28 : decode cX6_layOut 28 = .ok (.isub, 1) := by decide +kernel
theorem dX6_layOut_29 : decode cX6_layOut 29 = .ok (.iload_n 3, 1) := by decide +kernel
theorem dX6_layOut_30 : decode cX6_layOut 30 = .ok (.isub, 1) := by decide +kernel
theorem dX6_layOut_31 : decode cX6_layOut 31 = .ok (.goto 4, 3) := by decide +kernel
theorem dX6_layOut_34 : decode cX6_layOut 34 = .ok (.iload_n 3, 1) := by decide +kernel
theorem dX6_layOut_35 : decode cX6_layOut 35 = .ok (.istore 4, 2) := by decide +kernel
theorem dX6_layOut_37 : decode cX6_layOut 37 = .ok (.iload_n 1, 1) := by decide +kernel
theorem dX6_layOut_38 : decode cX6_layOut 38 = .ok (.iload 4, 2) := by decide +kernel
theorem dX6_layOut_40 : decode cX6_layOut 40 = .ok (.ishr, 1) := by decide +kernel
theorem dX6_layOut_41 : decode cX6_layOut 41 = .ok (.iconst 1, 1) := by decide +kernel
theorem dX6_layOut_42 : decode cX6_layOut 42 = .ok (.iand, 1) := by decide +kernel
theorem dX6_layOut_43 : decode cX6_layOut 43 = .ok (.iconst 1, 1) := by decide +kernel
theorem dX6_layOut_44 : decode cX6_layOut 44 = .ok (.if_icmp .ne 24, 3) := by decide +kernel
theorem dX6_layOut_47 : decode cX6_layOut 47 = .ok (.aload_n 0, 1) := by decide +kernel
theorem dX6_layOut_48 : decode cX6_layOut 48 = .ok (.getfield 29, 3) := by decide +kernel
theorem dX6_layOut_51 : decode cX6_layOut 51 = .ok (.aload_n 0, 1) := by decide +kernel
theorem dX6_layOut_52 : decode cX6_layOut 52 = .ok (.getfield 58, 3) := by decide +kernel
theorem dX6_layOut_55 : decode cX6_layOut 55 = .ok (.iload 4, 2) := by decide +kernel
theorem dX6_layOut_57 : decode cX6_layOut 57 = .ok (.iastore, 1) := by decide +kernel
theorem dX6_layOut_58 : decode cX6_layOut 58 = .ok (.aload_n 0, 1) := by decide +kernel
theorem dX6_layOut_59 : decode cX6_layOut 59 = .ok (.dup, 1) := by decide +kernel
theorem dX6_layOut_60 : decode cX6_layOut 60 = .ok (.getfield 58, 3) := by decide +kernel
theorem dX6_layOut_63 : decode cX6_layOut 63 = .ok (.iconst 1, 1) := by decide +kernel
theorem dX6_layOut_64 : decode cX6_layOut 64 = .ok (.iadd, 1) := by decide +kernel
theorem dX6_layOut_65 : decode cX6_layOut 65 = .ok (.putfield 58, 3) := by decide +kernel
theorem dX6_layOut_68 : decode cX6_layOut 68 = .ok (.iinc 3 1, 3) := by decide +kernel
theorem dX6_layOut_71 : decode cX6_layOut 71 = .ok (.goto (-64), 3) := by decide +kernel
theorem dX6_layOut_74 : decode cX6_layOut 74 = .ok (.iload_n 1, 1) := by decide +kernel
theorem dX6_layOut_75 : decode cX6_layOut 75 = .ok (.ifCond .ge 8, 3) := by decide +kernel
theorem dX6_layOut_78 : decode cX6_layOut 78 = .ok (.bipush (-2), 2) := by decide +kernel
theorem dX6_layOut_80 : decode cX6_layOut 80 = .ok (.goto 16, 3) := by decide +kernel
theorem dX6_layOut_83 : decode cX6_layOut 83 = .ok (.aload_n 0, 1) := by decide +kernel
theorem dX6_layOut_84 : decode cX6_layOut 84 = .ok (.getfield 58, 3) := by decide +kernel
theorem dX6_layOut_87 : decode cX6_layOut 87 = .ok (.ifCond .ne 8, 3) := by decide +kernel
theorem dX6_layOut_90 : decode cX6_layOut 90 = .ok (.bipush (-5), 2) := by decide +kernel
theorem dX6_layOut_92 : decode cX6_layOut 92 = .ok (.goto 4, 3) := by decide +kernel
theorem dX6_layOut_95 : decode cX6_layOut 95 = .ok (.iconst 0, 1) := by decide +kernel
theorem dX6_layOut_96 : decode cX6_layOut 96 = .ok (.ireturn, 1) := by decide +kernel
set_option maxRecDepth 20000 in
theorem ggX6_hangFault_X6_in : GoodIn wsX6_hangFault wsX6_in := goodIn_r _ [5] (by decide +kernel) (by decide +kernel)
set_option maxRecDepth 20000 in
theorem gX6_hangFault_X6_in : GoodIn wsX6_hangFault (va_wsS RX6 35 yX6_in wsX6_in) := goodIn_app (goodIn_of _ (by decide +kernel)) ggX6_hangFault_X6_in
theorem dX6_hangFault_0 : decode cX6_hangFault 0 = .ok (.iload_n 1, 1) := by decide +kernel
theorem dX6_hangFault_1 : decode cX6_hangFault 1 = .ok (.iconst 0, 1) := by decide +kernel
theorem dX6_hangFault_2 : decode cX6_hangFault 2 = .ok (.bipush 99, 2) := by decide +kernel
theorem dX6_hangFault_4 : decode cX6_hangFault 4 = .ok (.invokestatic 35, 3) := by decide +kernel
theorem dX6_hangFault_7 : decode cX6_hangFault 7 = .ok (.ifCond .eq 24, 3) := by decide +kernel
theorem dX6_hangFault_10 : decode cX6_hangFault 10 = .ok (.iload_n 2, 1) := by decide +kernel
theorem dX6_hangFault_11 : decode cX6_hangFault 11 = .ok (.iconst 0, 1) := by decide +kernel
theorem dX6_hangFault_12 : decode cX6_hangFault 12 = .ok (.bipush 30, 2) := by decide +kernel
theorem dX6_hangFault_14 : decode cX6_hangFault 14 = .ok (.invokestatic 35, 3) := by decide +kernel
theorem dX6_hangFault_17 : decode cX6_hangFault 17 = .ok (.ifCond .eq 14, 3) := by decide +kernel
theorem dX6_hangFault_20 : decode cX6_hangFault 20 = .ok (.iload_n 3, 1) := by decide +kernel
theorem dX6_hangFault_21 : decode cX6_hangFault 21 = .ok (.bipush (-99), 2) := by decide +kernel
theorem dX6_hangFault_23 : decode cX6_hangFault 23 = .ok (.bipush 99, 2) := by decide +kernel
theorem dX6_hangFault_25 : decode cX6_hangFault 25 = .ok (.invokestatic 35, 3) := by decide +kernel
theorem dX6_hangFault_28 : decode cX6_hangFault 28 = .ok (.ifCond .ne 6, 3) := by decide +kernel
theorem dX6_hangFault_31 : decode cX6_hangFault 31 = .ok (.bipush (-2), 2) := by decide +kernel
theorem dX6_hangFault_33 : decode cX6_hangFault 33 = .ok (.ireturn, 1) := by decide +kernel
theorem dX6_hangFault_34 : decode cX6_hangFault 34 = .ok (.aload_n 0, 1) := by decide +kernel
theorem dX6_hangFault_35 : decode cX6_hangFault 35 = .ok (.getfield 7, 3) := by decide +kernel
theorem dX6_hangFault_38 : decode cX6_hangFault 38 = .ok (.iconst 5, 1) := by decide +kernel
theorem dX6_hangFault_39 : decode cX6_hangFault 39 = .ok (.iaload, 1) := by decide +kernel
theorem dX6_hangFault_40 : decode cX6_hangFault 40 = .ok (.bipush 16, 2) := by decide +kernel
theorem dX6_hangFault_42 : decode cX6_hangFault 42 = .ok (.if_icmp .ne 8, 3) := by decide +kernel
theorem dX6_hangFault_45 : decode cX6_hangFault 45 = .ok (.bipush (-4), 2) := by decide +kernel
theorem dX6_hangFault_47 : decode cX6_hangFault 47 = .ok (.goto 4, 3) := by decide +kernel
theorem dX6_hangFault_50 : decode cX6_hangFault 50 = .ok (.iconst 0, 1) := by decide +kernel
theorem dX6_hangFault_51 : decode cX6_hangFault 51 = .ok (.ireturn, 1) := by decide +kernel
set_option maxRecDepth 20000 in
theorem ggX6_hangs_X6_at : GoodIn wsX6_hangs wsX6_at := goodIn_r _ [5] (by decide +kernel) (by decide +kernel)
set_option maxRecDepth 20000 in
theorem gX6_hangs_X6_at : GoodIn wsX6_hangs (va_wsS RX6 43 yX6_at wsX6_at) := goodIn_app (goodIn_of _ (by decide +kernel)) ggX6_hangs_X6_at
theorem dX6_hangs_0 : decode cX6_hangs 0 = .ok (.aload_n 0, 1) := by decide +kernel
theorem dX6_hangs_1 : decode cX6_hangs 1 = .ok (.getfield 7, 3) := by decide +kernel
theorem dX6_hangs_4 : decode cX6_hangs 4 = .ok (.iconst 5, 1) := by decide +kernel
theorem dX6_hangs_5 : decode cX6_hangs 5 = .ok (.iaload, 1) := by decide +kernel
theorem dX6_hangs_6 : decode cX6_hangs 6 = .ok (.istore 4, 2) := by decide +kernel
theorem dX6_hangs_8 : decode cX6_hangs 8 = .ok (.iconst 0, 1) := by decide +kernel
theorem dX6_hangs_9 : decode cX6_hangs 9 = .ok (.istore 5, 2) := by decide +kernel
theorem dX6_hangs_11 : decode cX6_hangs 11 = .ok (.iload 5, 2) := by decide +kernel
theorem dX6_hangs_13 : decode cX6_hangs 13 = .ok (.bipush 8, 2) := by decide +kernel
theorem dX6_hangs_15 : decode cX6_hangs 15 = .ok (.if_icmp .ge 22, 3) := by decide +kernel
theorem dX6_hangs_18 : decode cX6_hangs 18 = .ok (.aload_n 0, 1) := by decide +kernel
theorem dX6_hangs_19 : decode cX6_hangs 19 = .ok (.getfield 7, 3) := by decide +kernel
theorem dX6_hangs_22 : decode cX6_hangs 22 = .ok (.iload 4, 2) := by decide +kernel
theorem dX6_hangs_24 : decode cX6_hangs 24 = .ok (.iload 5, 2) := by decide +kernel
theorem dX6_hangs_26 : decode cX6_hangs 26 = .ok (.invokestatic 43, 3) := by decide +kernel
theorem dX6_hangs_29 : decode cX6_hangs 29 = .ok (.iconst 0, 1) := by decide +kernel
theorem dX6_hangs_30 : decode cX6_hangs 30 = .ok (.iastore, 1) := by decide +kernel
theorem dX6_hangs_31 : decode cX6_hangs 31 = .ok (.iinc 5 1, 3) := by decide +kernel
theorem dX6_hangs_34 : decode cX6_hangs 34 = .ok (.goto (-23), 3) := by decide +kernel
theorem dX6_hangs_37 : decode cX6_hangs 37 = .ok (.aload_n 0, 1) := by decide +kernel
theorem dX6_hangs_38 : decode cX6_hangs 38 = .ok (.getfield 7, 3) := by decide +kernel
theorem dX6_hangs_41 : decode cX6_hangs 41 = .ok (.iload 4, 2) := by decide +kernel
theorem dX6_hangs_43 : decode cX6_hangs 43 = .ok (.iconst 0, 1) := by decide +kernel
theorem dX6_hangs_44 : decode cX6_hangs 44 = .ok (.invokestatic 43, 3) := by decide +kernel
theorem dX6_hangs_47 : decode cX6_hangs 47 = .ok (.iload_n 1, 1) := by decide +kernel
theorem dX6_hangs_48 : decode cX6_hangs 48 = .ok (.iastore, 1) := by decide +kernel
theorem dX6_hangs_49 : decode cX6_hangs 49 = .ok (.aload_n 0, 1) := by decide +kernel
theorem dX6_hangs_50 : decode cX6_hangs 50 = .ok (.getfield 7, 3) := by decide +kernel
theorem dX6_hangs_53 : decode cX6_hangs 53 = .ok (.iload 4, 2) := by decide +kernel
theorem dX6_hangs_55 : decode cX6_hangs 55 = .ok (.iconst 1, 1) := by decide +kernel
theorem dX6_hangs_56 : decode cX6_hangs 56 = .ok (.invokestatic 43, 3) := by decide +kernel
theorem dX6_hangs_59 : decode cX6_hangs 59 = .ok (.iload_n 2, 1) := by decide +kernel
theorem dX6_hangs_60 : decode cX6_hangs 60 = .ok (.iastore, 1) := by decide +kernel
theorem dX6_hangs_61 : decode cX6_hangs 61 = .ok (.aload_n 0, 1) := by decide +kernel
theorem dX6_hangs_62 : decode cX6_hangs 62 = .ok (.getfield 7, 3) := by decide +kernel
theorem dX6_hangs_65 : decode cX6_hangs 65 = .ok (.iload 4, 2) := by decide +kernel
theorem dX6_hangs_67 : decode cX6_hangs 67 = .ok (.iconst 2, 1) := by decide +kernel
theorem dX6_hangs_68 : decode cX6_hangs 68 = .ok (.invokestatic 43, 3) := by decide +kernel
theorem dX6_hangs_71 : decode cX6_hangs 71 = .ok (.iload_n 3, 1) := by decide +kernel
theorem dX6_hangs_72 : decode cX6_hangs 72 = .ok (.iastore, 1) := by decide +kernel
theorem dX6_hangs_73 : decode cX6_hangs 73 = .ok (.aload_n 0, 1) := by decide +kernel
theorem dX6_hangs_74 : decode cX6_hangs 74 = .ok (.getfield 7, 3) := by decide +kernel
theorem dX6_hangs_77 : decode cX6_hangs 77 = .ok (.iload 4, 2) := by decide +kernel
theorem dX6_hangs_79 : decode cX6_hangs 79 = .ok (.bipush 6, 2) := by decide +kernel
theorem dX6_hangs_81 : decode cX6_hangs 81 = .ok (.invokestatic 43, 3) := by decide +kernel
theorem dX6_hangs_84 : decode cX6_hangs 84 = .ok (.iconst 1, 1) := by decide +kernel
theorem dX6_hangs_85 : decode cX6_hangs 85 = .ok (.iastore, 1) := by decide +kernel
theorem dX6_hangs_86 : decode cX6_hangs 86 = .ok (.aload_n 0, 1) := by decide +kernel
theorem dX6_hangs_87 : decode cX6_hangs 87 = .ok (.getfield 7, 3) := by decide +kernel
theorem dX6_hangs_90 : decode cX6_hangs 90 = .ok (.iconst 5, 1) := by decide +kernel
theorem dX6_hangs_91 : decode cX6_hangs 91 = .ok (.dup2, 1) := by decide +kernel
theorem dX6_hangs_92 : decode cX6_hangs 92 = .ok (.iaload, 1) := by decide +kernel
theorem dX6_hangs_93 : decode cX6_hangs 93 = .ok (.iconst 1, 1) := by decide +kernel
theorem dX6_hangs_94 : decode cX6_hangs 94 = .ok (.iadd, 1) := by decide +kernel
theorem dX6_hangs_95 : decode cX6_hangs 95 = .ok (.iastore, 1) := by decide +kernel
theorem dX6_hangs_96 : decode cX6_hangs 96 = .ok (.iload 4, 2) := by decide +kernel
theorem dX6_hangs_98 : decode cX6_hangs 98 = .ok (.ireturn, 1) := by decide +kernel
set_option maxRecDepth 20000 in
theorem ggX6_ladderFault_X6_in : GoodIn wsX6_ladderFault wsX6_in := goodIn_r _ [5] (by decide +kernel) (by decide +kernel)
set_option maxRecDepth 20000 in
theorem gX6_ladderFault_X6_in : GoodIn wsX6_ladderFault (va_wsS RX6 35 yX6_in wsX6_in) := goodIn_app (goodIn_of _ (by decide +kernel)) ggX6_ladderFault_X6_in
theorem dX6_ladderFault_0 : decode cX6_ladderFault 0 = .ok (.iload_n 1, 1) := by decide +kernel
theorem dX6_ladderFault_1 : decode cX6_ladderFault 1 = .ok (.iconst 1, 1) := by decide +kernel
theorem dX6_ladderFault_2 : decode cX6_ladderFault 2 = .ok (.bipush 30, 2) := by decide +kernel
theorem dX6_ladderFault_4 : decode cX6_ladderFault 4 = .ok (.invokestatic 35, 3) := by decide +kernel
theorem dX6_ladderFault_7 : decode cX6_ladderFault 7 = .ok (.ifCond .ne 8, 3) := by decide +kernel
theorem dX6_ladderFault_10 : decode cX6_ladderFault 10 = .ok (.bipush (-2), 2) := by decide +kernel
theorem dX6_ladderFault_12 : decode cX6_ladderFault 12 = .ok (.goto 20, 3) := by decide +kernel
theorem dX6_ladderFault_15 : decode cX6_ladderFault 15 = .ok (.aload_n 0, 1) := by decide +kernel
theorem dX6_ladderFault_16 : decode cX6_ladderFault 16 = .ok (.getfield 7, 3) := by decide +kernel
theorem dX6_ladderFault_19 : decode cX6_ladderFault 19 = .ok (.bipush 6, 2) := by decide +kernel
theorem dX6_ladderFault_21 : decode cX6_ladderFault 21 = .ok (.iaload, 1) := by decide +kernel
theorem dX6_ladderFault_22 : decode cX6_ladderFault 22 = .ok (.iconst 4, 1) := by decide +kernel
theorem dX6_ladderFault_23 : decode cX6_ladderFault 23 = .ok (.if_icmp .ne 8, 3) := by decide +kernel
theorem dX6_ladderFault_26 : decode cX6_ladderFault 26 = .ok (.bipush (-4), 2) := by decide +kernel
theorem dX6_ladderFault_28 : decode cX6_ladderFault 28 = .ok (.goto 4, 3) := by decide +kernel
theorem dX6_ladderFault_31 : decode cX6_ladderFault 31 = .ok (.iconst 0, 1) := by decide +kernel
theorem dX6_ladderFault_32 : decode cX6_ladderFault 32 = .ok (.ireturn, 1) := by decide +kernel
theorem dX6_buys_0 : decode cX6_buys 0 = .ok (.aload_n 0, 1) := by decide +kernel
theorem dX6_buys_1 : decode cX6_buys 1 = .ok (.getfield 7, 3) := by decide +kernel
theorem dX6_buys_4 : decode cX6_buys 4 = .ok (.bipush 8, 2) := by decide +kernel
theorem dX6_buys_6 : decode cX6_buys 6 = .ok (.aload_n 0, 1) := by decide +kernel
theorem dX6_buys_7 : decode cX6_buys 7 = .ok (.getfield 7, 3) := by decide +kernel
theorem dX6_buys_10 : decode cX6_buys 10 = .ok (.bipush 6, 2) := by decide +kernel
theorem dX6_buys_12 : decode cX6_buys 12 = .ok (.iaload, 1) := by decide +kernel
theorem dX6_buys_13 : decode cX6_buys 13 = .ok (.iadd, 1) := by decide +kernel
theorem dX6_buys_14 : decode cX6_buys 14 = .ok (.iload_n 1, 1) := by decide +kernel
theorem dX6_buys_15 : decode cX6_buys 15 = .ok (.iastore, 1) := by decide +kernel
theorem dX6_buys_16 : decode cX6_buys 16 = .ok (.aload_n 0, 1) := by decide +kernel
theorem dX6_buys_17 : decode cX6_buys 17 = .ok (.getfield 7, 3) := by decide +kernel
theorem dX6_buys_20 : decode cX6_buys 20 = .ok (.bipush 6, 2) := by decide +kernel
theorem dX6_buys_22 : decode cX6_buys 22 = .ok (.dup2, 1) := by decide +kernel
theorem dX6_buys_23 : decode cX6_buys 23 = .ok (.iaload, 1) := by decide +kernel
theorem dX6_buys_24 : decode cX6_buys 24 = .ok (.iconst 1, 1) := by decide +kernel
theorem dX6_buys_25 : decode cX6_buys 25 = .ok (.iadd, 1) := by decide +kernel
theorem dX6_buys_26 : decode cX6_buys 26 = .ok (.iastore, 1) := by decide +kernel
theorem dX6_buys_27 : decode cX6_buys 27 = .ok (.aload_n 0, 1) := by decide +kernel
theorem dX6_buys_28 : decode cX6_buys 28 = .ok (.getfield 7, 3) := by decide +kernel
theorem dX6_buys_31 : decode cX6_buys 31 = .ok (.bipush 6, 2) := by decide +kernel
theorem dX6_buys_33 : decode cX6_buys 33 = .ok (.iaload, 1) := by decide +kernel
theorem dX6_buys_34 : decode cX6_buys 34 = .ok (.iconst 1, 1) := by decide +kernel
theorem dX6_buys_35 : decode cX6_buys 35 = .ok (.isub, 1) := by decide +kernel
theorem dX6_buys_36 : decode cX6_buys 36 = .ok (.ireturn, 1) := by decide +kernel
set_option maxRecDepth 20000 in
theorem ggX6_passFault_X6_in : GoodIn wsX6_passFault wsX6_in := goodIn_r _ [5] (by decide +kernel) (by decide +kernel)
set_option maxRecDepth 20000 in
theorem gX6_passFault_X6_in : GoodIn wsX6_passFault (va_wsS RX6 35 yX6_in wsX6_in) := goodIn_app (goodIn_of _ (by decide +kernel)) ggX6_passFault_X6_in
theorem dX6_passFault_0 : decode cX6_passFault 0 = .ok (.iload_n 1, 1) := by decide +kernel
theorem dX6_passFault_1 : decode cX6_passFault 1 = .ok (.iconst 1, 1) := by decide +kernel
theorem dX6_passFault_2 : decode cX6_passFault 2 = .ok (.bipush 99, 2) := by decide +kernel
theorem dX6_passFault_4 : decode cX6_passFault 4 = .ok (.invokestatic 35, 3) := by decide +kernel
theorem dX6_passFault_7 : decode cX6_passFault 7 = .ok (.ifCond .ne 8, 3) := by decide +kernel
theorem dX6_passFault_10 : decode cX6_passFault 10 = .ok (.bipush (-2), 2) := by decide +kernel
theorem dX6_passFault_12 : decode cX6_passFault 12 = .ok (.goto 23, 3) := by decide +kernel
theorem dX6_passFault_15 : decode cX6_passFault 15 = .ok (.aload_n 0, 1) := by decide +kernel
theorem dX6_passFault_16 : decode cX6_passFault 16 = .ok (.getfield 7, 3) := by decide +kernel
theorem dX6_passFault_19 : decode cX6_passFault 19 = .ok (.iconst 4, 1) := by decide +kernel
theorem dX6_passFault_20 : decode cX6_passFault 20 = .ok (.iaload, 1) := by decide +kernel
theorem dX6_passFault_21 : decode cX6_passFault 21 = .ok (.iload_n 1, 1) := by decide +kernel
theorem dX6_passFault_22 : decode cX6_passFault 22 = .ok (.iadd, 1) := by decide +kernel
theorem dX6_passFault_23 : decode cX6_passFault 23 = .ok (.sipush 9999, 3) := by decide +kernel
theorem dX6_passFault_26 : decode cX6_passFault 26 = .ok (.if_icmp .le 8, 3) := by decide +kernel
theorem dX6_passFault_29 : decode cX6_passFault 29 = .ok (.bipush (-5), 2) := by decide +kernel
theorem dX6_passFault_31 : decode cX6_passFault 31 = .ok (.goto 4, 3) := by decide +kernel
theorem dX6_passFault_34 : decode cX6_passFault 34 = .ok (.iconst 0, 1) := by decide +kernel
theorem dX6_passFault_35 : decode cX6_passFault 35 = .ok (.ireturn, 1) := by decide +kernel
set_option maxRecDepth 20000 in
theorem ggX6_still_X6_at : GoodIn wsX6_still wsX6_at := goodIn_r _ [5] (by decide +kernel) (by decide +kernel)
set_option maxRecDepth 20000 in
theorem gX6_still_X6_at : GoodIn wsX6_still (va_wsS RX6 43 yX6_at wsX6_at) := goodIn_app (goodIn_of _ (by decide +kernel)) ggX6_still_X6_at
theorem dX6_still_0 : decode cX6_still 0 = .ok (.iconst 0, 1) := by decide +kernel
theorem dX6_still_1 : decode cX6_still 1 = .ok (.istore_n 1, 1) := by decide +kernel
theorem dX6_still_2 : decode cX6_still 2 = .ok (.iconst 0, 1) := by decide +kernel
theorem dX6_still_3 : decode cX6_still 3 = .ok (.istore_n 2, 1) := by decide +kernel
theorem dX6_still_4 : decode cX6_still 4 = .ok (.iload_n 2, 1) := by decide +kernel
theorem dX6_still_5 : decode cX6_still 5 = .ok (.aload_n 0, 1) := by decide +kernel
theorem dX6_still_6 : decode cX6_still 6 = .ok (.getfield 7, 3) := by decide +kernel
theorem dX6_still_9 : decode cX6_still 9 = .ok (.iconst 5, 1) := by decide +kernel
theorem dX6_still_10 : decode cX6_still 10 = .ok (.iaload, 1) := by decide +kernel
theorem dX6_still_11 : decode cX6_still 11 = .ok (.if_icmp .ge 34, 3) := by decide +kernel
theorem dX6_still_14 : decode cX6_still 14 = .ok (.iload_n 1, 1) := by decide +kernel
theorem dX6_still_15 : decode cX6_still 15 = .ok (.aload_n 0, 1) := by decide +kernel
theorem dX6_still_16 : decode cX6_still 16 = .ok (.getfield 7, 3) := by decide +kernel
theorem dX6_still_19 : decode cX6_still 19 = .ok (.iload_n 2, 1) := by decide +kernel
theorem dX6_still_20 : decode cX6_still 20 = .ok (.bipush 6, 2) := by decide +kernel
theorem dX6_still_22 : decode cX6_still 22 = .ok (.invokestatic 43, 3) := by decide +kernel
theorem dX6_still_25 : decode cX6_still 25 = .ok (.iaload, 1) := by decide +kernel
theorem dX6_still_26 : decode cX6_still 26 = .ok (.iconst 1, 1) := by decide +kernel
theorem dX6_still_27 : decode cX6_still 27 = .ok (.if_icmp .ne 7, 3) := by decide +kernel
theorem dX6_still_30 : decode cX6_still 30 = .ok (.iconst 0, 1) := by decide +kernel
theorem dX6_still_31 : decode cX6_still 31 = .ok (.goto 6, 3) := by decide +kernel
theorem dX6_still_34 : decode cX6_still 34 = .ok (.iconst 1, 1) := by decide +kernel
theorem dX6_still_35 : decode cX6_still 35 = .ok (.iload_n 2, 1) := by decide +kernel
theorem dX6_still_36 : decode cX6_still 36 = .ok (.ishl, 1) := by decide +kernel
theorem dX6_still_37 : decode cX6_still 37 = .ok (.ior, 1) := by decide +kernel
theorem dX6_still_38 : decode cX6_still 38 = .ok (.istore_n 1, 1) := by decide +kernel
theorem dX6_still_39 : decode cX6_still 39 = .ok (.iinc 2 1, 3) := by decide +kernel
theorem dX6_still_42 : decode cX6_still 42 = .ok (.goto (-38), 3) := by decide +kernel
theorem dX6_still_45 : decode cX6_still 45 = .ok (.iload_n 1, 1) := by decide +kernel
theorem dX6_still_46 : decode cX6_still 46 = .ok (.ireturn, 1) := by decide +kernel
theorem dX6_many_0 : decode cX6_many 0 = .ok (.iconst 0, 1) := by decide +kernel
theorem dX6_many_1 : decode cX6_many 1 = .ok (.istore_n 1, 1) := by decide +kernel
theorem dX6_many_2 : decode cX6_many 2 = .ok (.iconst 0, 1) := by decide +kernel
theorem dX6_many_3 : decode cX6_many 3 = .ok (.istore_n 2, 1) := by decide +kernel
theorem dX6_many_4 : decode cX6_many 4 = .ok (.iload_n 2, 1) := by decide +kernel
theorem dX6_many_5 : decode cX6_many 5 = .ok (.bipush 16, 2) := by decide +kernel
theorem dX6_many_7 : decode cX6_many 7 = .ok (.if_icmp .ge 17, 3) := by decide +kernel
theorem dX6_many_10 : decode cX6_many 10 = .ok (.iload_n 1, 1) := by decide +kernel
theorem dX6_many_11 : decode cX6_many 11 = .ok (.iload_n 0, 1) := by decide +kernel
theorem dX6_many_12 : decode cX6_many 12 = .ok (.iload_n 2, 1) := by decide +kernel
theorem dX6_many_13 : decode cX6_many 13 = .ok (.ishr, 1) := by decide +kernel
theorem dX6_many_14 : decode cX6_many 14 = .ok (.iconst 1, 1) := by decide +kernel
theorem dX6_many_15 : decode cX6_many 15 = .ok (.iand, 1) := by decide +kernel
theorem dX6_many_16 : decode cX6_many 16 = .ok (.iadd, 1) := by decide +kernel
theorem dX6_many_17 : decode cX6_many 17 = .ok (.istore_n 1, 1) := by decide +kernel
theorem dX6_many_18 : decode cX6_many 18 = .ok (.iinc 2 1, 3) := by decide +kernel
theorem dX6_many_21 : decode cX6_many 21 = .ok (.goto (-17), 3) := by decide +kernel
theorem dX6_many_24 : decode cX6_many 24 = .ok (.iload_n 1, 1) := by decide +kernel
theorem dX6_many_25 : decode cX6_many 25 = .ok (.ireturn, 1) := by decide +kernel
set_option maxRecDepth 20000 in
theorem ggX6_passes_X6_day : GoodIn wsX6_passes wsX6_day := goodIn_r _ [6, 1, 7, 8, 9, 5, 10, 11, 12, 13, 14, 22, 23, 24, 25, 26, 27, 28, 29, 30, 31, 32, 33, 34, 35, 36, 37, 38] (by decide +kernel) (by decide +kernel)
set_option maxRecDepth 20000 in
theorem gX6_passes_X6_day : GoodIn wsX6_passes (wsV RX6 76 RX6 yX6_day wsX6_day) := goodIn_app (goodIn_of _ (by decide +kernel)) ggX6_passes_X6_day
set_option maxRecDepth 20000 in
theorem ggX6_passes_X6_still : GoodIn wsX6_passes wsX6_still := goodIn_r _ [18, 1, 8, 9, 5, 10, 22, 23, 24, 25, 26, 27, 28, 29, 30, 31, 32, 33, 34, 35, 36, 37, 38] (by decide +kernel) (by decide +kernel)
set_option maxRecDepth 20000 in
theorem gX6_passes_X6_still : GoodIn wsX6_passes (wsV RX6 79 RX6 yX6_still wsX6_still) := goodIn_app (goodIn_of _ (by decide +kernel)) ggX6_passes_X6_still
set_option maxRecDepth 20000 in
theorem ggX6_passes_X6_many : GoodIn wsX6_passes wsX6_many := goodIn_r _ [21] (by decide +kernel) (by decide +kernel)
set_option maxRecDepth 20000 in
theorem gX6_passes_X6_many : GoodIn wsX6_passes (va_wsS RX6 82 yX6_many wsX6_many) := goodIn_app (goodIn_of _ (by decide +kernel)) ggX6_passes_X6_many
theorem dX6_passes_0 : decode cX6_passes 0 = .ok (.iconst 0, 1) := by decide +kernel
theorem dX6_passes_1 : decode cX6_passes 1 = .ok (.istore_n 2, 1) := by decide +kernel
theorem dX6_passes_2 : decode cX6_passes 2 = .ok (.iload_n 2, 1) := by decide +kernel
theorem dX6_passes_3 : decode cX6_passes 3 = .ok (.iload_n 1, 1) := by decide +kernel
theorem dX6_passes_4 : decode cX6_passes 4 = .ok (.if_icmp .ge 32, 3) := by decide +kernel
theorem dX6_passes_7 : decode cX6_passes 7 = .ok (.iconst 0, 1) := by decide +kernel
theorem dX6_passes_8 : decode cX6_passes 8 = .ok (.istore_n 3, 1) := by decide +kernel
theorem dX6_passes_9 : decode cX6_passes 9 = .ok (.iload_n 3, 1) := by decide +kernel
theorem dX6_passes_10 : decode cX6_passes 10 = .ok (.aload_n 0, 1) := by decide +kernel
theorem dX6_passes_11 : decode cX6_passes 11 = .ok (.getfield 7, 3) := by decide +kernel
theorem dX6_passes_14 : decode cX6_passes 14 = .ok (.iconst 5, 1) := by decide +kernel
theorem dX6_passes_15 : decode cX6_passes 15 = .ok (.iaload, 1) := by decide +kernel
theorem dX6_passes_16 : decode cX6_passes 16 = .ok (.if_icmp .ge 14, 3) := by decide +kernel
theorem dX6_passes_19 : decode cX6_passes 19 = .ok (.aload_n 0, 1) := by decide +kernel
theorem dX6_passes_20 : decode cX6_passes 20 = .ok (.iload_n 3, 1) := by decide +kernel
theorem dX6_passes_21 : decode cX6_passes 21 = .ok (.invokevirtual 76, 3) := by decide +kernel
theorem dX6_passes_24 : decode cX6_passes 24 = .ok (.iinc 3 1, 3) := by decide +kernel
theorem dX6_passes_27 : decode cX6_passes 27 = .ok (.goto (-18), 3) := by decide +kernel
theorem dX6_passes_30 : decode cX6_passes 30 = .ok (.iinc 2 1, 3) := by decide +kernel
theorem dX6_passes_33 : decode cX6_passes 33 = .ok (.goto (-31), 3) := by decide +kernel
theorem dX6_passes_36 : decode cX6_passes 36 = .ok (.aload_n 0, 1) := by decide +kernel
theorem dX6_passes_37 : decode cX6_passes 37 = .ok (.getfield 7, 3) := by decide +kernel
theorem dX6_passes_40 : decode cX6_passes 40 = .ok (.iconst 4, 1) := by decide +kernel
theorem dX6_passes_41 : decode cX6_passes 41 = .ok (.dup2, 1) := by decide +kernel
theorem dX6_passes_42 : decode cX6_passes 42 = .ok (.iaload, 1) := by decide +kernel
theorem dX6_passes_43 : decode cX6_passes 43 = .ok (.iload_n 1, 1) := by decide +kernel
theorem dX6_passes_44 : decode cX6_passes 44 = .ok (.iadd, 1) := by decide +kernel
theorem dX6_passes_45 : decode cX6_passes 45 = .ok (.iastore, 1) := by decide +kernel
theorem dX6_passes_46 : decode cX6_passes 46 = .ok (.aload_n 0, 1) := by decide +kernel
theorem dX6_passes_47 : decode cX6_passes 47 = .ok (.invokevirtual 79, 3) := by decide +kernel
theorem dX6_passes_50 : decode cX6_passes 50 = .ok (.invokestatic 82, 3) := by decide +kernel
theorem dX6_passes_53 : decode cX6_passes 53 = .ok (.ireturn, 1) := by decide +kernel
set_option maxRecDepth 20000 in
theorem ggX6_changes_X6_at : GoodIn wsX6_changes wsX6_at := goodIn_r _ [5] (by decide +kernel) (by decide +kernel)
set_option maxRecDepth 20000 in
theorem gX6_changes_X6_at : GoodIn wsX6_changes (va_wsS RX6 43 yX6_at wsX6_at) := goodIn_app (goodIn_of _ (by decide +kernel)) ggX6_changes_X6_at
set_option maxRecDepth 20000 in
theorem ggX6_changes_X6_still : GoodIn wsX6_changes wsX6_still := goodIn_r _ [9, 1, 2, 3, 4, 5, 13, 14, 15, 16, 17, 18, 19, 20, 21, 22, 23, 24, 25, 26, 27, 28, 29] (by decide +kernel) (by decide +kernel)
set_option maxRecDepth 20000 in
theorem gX6_changes_X6_still : GoodIn wsX6_changes (wsV RX6 79 RX6 yX6_still wsX6_still) := goodIn_app (goodIn_of _ (by decide +kernel)) ggX6_changes_X6_still
set_option maxRecDepth 20000 in
theorem ggX6_changes_X6_many : GoodIn wsX6_changes wsX6_many := goodIn_r _ [12] (by decide +kernel) (by decide +kernel)
set_option maxRecDepth 20000 in
theorem gX6_changes_X6_many : GoodIn wsX6_changes (va_wsS RX6 82 yX6_many wsX6_many) := goodIn_app (goodIn_of _ (by decide +kernel)) ggX6_changes_X6_many
theorem dX6_changes_0 : decode cX6_changes 0 = .ok (.iconst 0, 1) := by decide +kernel
theorem dX6_changes_1 : decode cX6_changes 1 = .ok (.istore_n 2, 1) := by decide +kernel
theorem dX6_changes_2 : decode cX6_changes 2 = .ok (.iload_n 2, 1) := by decide +kernel
theorem dX6_changes_3 : decode cX6_changes 3 = .ok (.aload_n 0, 1) := by decide +kernel
theorem dX6_changes_4 : decode cX6_changes 4 = .ok (.getfield 7, 3) := by decide +kernel
theorem dX6_changes_7 : decode cX6_changes 7 = .ok (.iconst 5, 1) := by decide +kernel
theorem dX6_changes_8 : decode cX6_changes 8 = .ok (.iaload, 1) := by decide +kernel
theorem dX6_changes_9 : decode cX6_changes 9 = .ok (.if_icmp .ge 54, 3) := by decide +kernel
theorem dX6_changes_12 : decode cX6_changes 12 = .ok (.aload_n 0, 1) := by decide +kernel
theorem dX6_changes_13 : decode cX6_changes 13 = .ok (.getfield 7, 3) := by decide +kernel
theorem dX6_changes_16 : decode cX6_changes 16 = .ok (.iload_n 2, 1) := by decide +kernel
theorem dX6_changes_17 : decode cX6_changes 17 = .ok (.iconst 4, 1) := by decide +kernel
theorem dX6_changes_18 : decode cX6_changes 18 = .ok (.invokestatic 43, 3) := by decide +kernel
theorem dX6_changes_21 : decode cX6_changes 21 = .ok (.dup2, 1) := by decide +kernel
theorem dX6_changes_22 : decode cX6_changes 22 = .ok (.iaload, 1) := by decide +kernel
theorem dX6_changes_23 : decode cX6_changes 23 = .ok (.aload_n 0, 1) := by decide +kernel
theorem dX6_changes_24 : decode cX6_changes 24 = .ok (.getfield 7, 3) := by decide +kernel
theorem dX6_changes_27 : decode cX6_changes 27 = .ok (.iload_n 2, 1) := by decide +kernel
theorem dX6_changes_28 : decode cX6_changes 28 = .ok (.bipush 6, 2) := by decide +kernel
theorem dX6_changes_30 : decode cX6_changes 30 = .ok (.invokestatic 43, 3) := by decide +kernel
theorem dX6_changes_33 : decode cX6_changes 33 = .ok (.iaload, 1) := by decide +kernel
theorem dX6_changes_34 : decode cX6_changes 34 = .ok (.ifCond .ne 7, 3) := by decide +kernel
theorem dX6_changes_37 : decode cX6_changes 37 = .ok (.iconst 0, 1) := by decide +kernel
theorem dX6_changes_38 : decode cX6_changes 38 = .ok (.goto 17, 3) := by decide +kernel
theorem dX6_changes_41 : decode cX6_changes 41 = .ok (.iload_n 1, 1) := by decide +kernel
theorem dX6_changes_42 : decode cX6_changes 42 = .ok (.iconst 1, 1) := by decide +kernel
theorem dX6_changes_43 : decode cX6_changes 43 = .ok (.if_icmp .ne 9, 3) := by decide +kernel
theorem dX6_changes_46 : decode cX6_changes 46 = .ok (.sipush (-3600), 3) := by decide +kernel
theorem dX6_changes_49 : decode cX6_changes 49 = .ok (.goto 6, 3) := by decide +kernel
theorem dX6_changes_52 : decode cX6_changes 52 = .ok (.sipush 3600, 3) := by decide +kernel
theorem dX6_changes_55 : decode cX6_changes 55 = .ok (.iadd, 1) := by decide +kernel
theorem dX6_changes_56 : decode cX6_changes 56 = .ok (.iastore, 1) := by decide +kernel
theorem dX6_changes_57 : decode cX6_changes 57 = .ok (.iinc 2 1, 3) := by decide +kernel
theorem dX6_changes_60 : decode cX6_changes 60 = .ok (.goto (-58), 3) := by decide +kernel
theorem dX6_changes_63 : decode cX6_changes 63 = .ok (.aload_n 0, 1) := by decide +kernel
theorem dX6_changes_64 : decode cX6_changes 64 = .ok (.getfield 7, 3) := by decide +kernel
theorem dX6_changes_67 : decode cX6_changes 67 = .ok (.iconst 5, 1) := by decide +kernel
theorem dX6_changes_68 : decode cX6_changes 68 = .ok (.iaload, 1) := by decide +kernel
theorem dX6_changes_69 : decode cX6_changes 69 = .ok (.aload_n 0, 1) := by decide +kernel
theorem dX6_changes_70 : decode cX6_changes 70 = .ok (.invokevirtual 79, 3) := by decide +kernel
theorem dX6_changes_73 : decode cX6_changes 73 = .ok (.invokestatic 82, 3) := by decide +kernel
theorem dX6_changes_76 : decode cX6_changes 76 = .ok (.isub, 1) := by decide +kernel
theorem dX6_changes_77 : decode cX6_changes 77 = .ok (.ireturn, 1) := by decide +kernel
set_option maxRecDepth 20000 in
theorem ggX6_set_X6_in : GoodIn wsX6_set wsX6_in := goodIn_r _ [5] (by decide +kernel) (by decide +kernel)
set_option maxRecDepth 20000 in
theorem gX6_set_X6_in : GoodIn wsX6_set (va_wsS RX6 35 yX6_in wsX6_in) := goodIn_app (goodIn_of _ (by decide +kernel)) ggX6_set_X6_in
set_option maxRecDepth 20000 in
theorem ggX6_set_X6_know : GoodIn wsX6_set wsX6_know := goodIn_r _ [9, 10, 11, 1, 12, 13, 14, 15, 16, 17, 18, 19, 20, 21, 22, 23, 24, 25, 26, 27, 28] (by decide +kernel) (by decide +kernel)
set_option maxRecDepth 20000 in
theorem gX6_set_X6_know : GoodIn wsX6_set (wsV RX6 85 RX6 yX6_know wsX6_know) := goodIn_app (goodIn_of _ (by decide +kernel)) ggX6_set_X6_know
theorem dX6_set_0 : decode cX6_set 0 = .ok (.iload_n 1, 1) := by decide +kernel
theorem dX6_set_1 : decode cX6_set 1 = .ok (.ifCond .ne 9, 3) := by decide +kernel
theorem dX6_set_4 : decode cX6_set 4 = .ok (.sipush 999, 3) := by decide +kernel
theorem dX6_set_7 : decode cX6_set 7 = .ok (.goto 5, 3) := by decide +kernel
theorem dX6_set_10 : decode cX6_set 10 = .ok (.bipush 30, 2) := by decide +kernel
theorem dX6_set_12 : decode cX6_set 12 = .ok (.istore_n 3, 1) := by decide +kernel
theorem dX6_set_13 : decode cX6_set 13 = .ok (.iload_n 1, 1) := by decide +kernel
theorem dX6_set_14 : decode cX6_set 14 = .ok (.iconst 0, 1) := by decide +kernel
theorem dX6_set_15 : decode cX6_set 15 = .ok (.iconst 3, 1) := by decide +kernel
theorem dX6_set_16 : decode cX6_set 16 = .ok (.invokestatic 35, 3) := by decide +kernel
theorem dX6_set_19 : decode cX6_set 19 = .ok (.ifCond .eq 12, 3) := by decide +kernel
theorem dX6_set_22 : decode cX6_set 22 = .ok (.iload_n 2, 1) := by decide +kernel
theorem dX6_set_23 : decode cX6_set 23 = .ok (.iconst 1, 1) := by decide +kernel
theorem dX6_set_24 : decode cX6_set 24 = .ok (.iload_n 3, 1) := by decide +kernel
theorem dX6_set_25 : decode cX6_set 25 = .ok (.invokestatic 35, 3) := by decide +kernel
theorem dX6_set_28 : decode cX6_set 28 = .ok (.ifCond .ne 6, 3) := by decide +kernel
theorem dX6_set_31 : decode cX6_set 31 = .ok (.bipush (-2), 2) := by decide +kernel
theorem dX6_set_33 : decode cX6_set 33 = .ok (.ireturn, 1) := by decide +kernel
theorem dX6_set_34 : decode cX6_set 34 = .ok (.aload_n 0, 1) := by decide +kernel
theorem dX6_set_35 : decode cX6_set 35 = .ok (.invokevirtual 85, 3) := by decide +kernel
theorem dX6_set_38 : decode cX6_set 38 = .ok (.aload_n 0, 1) := by decide +kernel
theorem dX6_set_39 : decode cX6_set 39 = .ok (.getfield 7, 3) := by decide +kernel
theorem dX6_set_42 : decode cX6_set 42 = .ok (.iconst 0, 1) := by decide +kernel
theorem dX6_set_43 : decode cX6_set 43 = .ok (.iload_n 1, 1) := by decide +kernel
theorem dX6_set_44 : decode cX6_set 44 = .ok (.iadd, 1) := by decide +kernel
theorem dX6_set_45 : decode cX6_set 45 = .ok (.iaload, 1) := by decide +kernel
theorem dX6_set_46 : decode cX6_set 46 = .ok (.istore 4, 2) := by decide +kernel
theorem dX6_set_48 : decode cX6_set 48 = .ok (.aload_n 0, 1) := by decide +kernel
theorem dX6_set_49 : decode cX6_set 49 = .ok (.getfield 7, 3) := by decide +kernel
theorem dX6_set_52 : decode cX6_set 52 = .ok (.iconst 0, 1) := by decide +kernel
theorem dX6_set_53 : decode cX6_set 53 = .ok (.iload_n 1, 1) := by decide +kernel
theorem dX6_set_54 : decode cX6_set 54 = .ok (.iadd, 1) := by decide +kernel
theorem dX6_set_55 : decode cX6_set 55 = .ok (.iload_n 2, 1) := by decide +kernel
theorem dX6_set_56 : decode cX6_set 56 = .ok (.iastore, 1) := by decide +kernel
theorem dX6_set_57 : decode cX6_set 57 = .ok (.iload 4, 2) := by decide +kernel
theorem dX6_set_59 : decode cX6_set 59 = .ok (.ireturn, 1) := by decide +kernel
set_option maxRecDepth 20000 in
theorem ggX6_hang_X6_hangFault : GoodIn wsX6_hang wsX6_hangFault := goodIn_r _ [5, 6, 7, 8, 4, 9, 23, 24, 25, 26, 27, 28, 29, 30, 31, 32, 33, 34, 35, 36, 37, 38, 39] (by decide +kernel) (by decide +kernel)
set_option maxRecDepth 20000 in
theorem gX6_hang_X6_hangFault : GoodIn wsX6_hang (wsV RX6 88 RX6 yX6_hangFault wsX6_hangFault) := goodIn_app (goodIn_of _ (by decide +kernel)) ggX6_hang_X6_hangFault
set_option maxRecDepth 20000 in
theorem ggX6_hang_X6_know : GoodIn wsX6_hang wsX6_know := goodIn_r _ [13, 14, 15, 6, 23, 24, 25, 26, 27, 28, 29, 30, 31, 32, 33, 34, 35, 36, 37, 38, 39] (by decide +kernel) (by decide +kernel)
set_option maxRecDepth 20000 in
theorem gX6_hang_X6_know : GoodIn wsX6_hang (wsV RX6 85 RX6 yX6_know wsX6_know) := goodIn_app (goodIn_of _ (by decide +kernel)) ggX6_hang_X6_know
set_option maxRecDepth 20000 in
theorem ggX6_hang_X6_hangs : GoodIn wsX6_hang wsX6_hangs := goodIn_r _ [19, 6, 20, 21, 4, 22, 23, 24, 25, 26, 27, 28, 29, 30, 31, 32, 33, 34, 35, 36, 37, 38, 39] (by decide +kernel) (by decide +kernel)
set_option maxRecDepth 20000 in
theorem gX6_hang_X6_hangs : GoodIn wsX6_hang (wsV RX6 92 RX6 yX6_hangs wsX6_hangs) := goodIn_app (goodIn_of _ (by decide +kernel)) ggX6_hang_X6_hangs
theorem dX6_hang_0 : decode cX6_hang 0 = .ok (.aload_n 0, 1) := by decide +kernel
theorem dX6_hang_1 : decode cX6_hang 1 = .ok (.iload_n 1, 1) := by decide +kernel
theorem dX6_hang_2 : decode cX6_hang 2 = .ok (.iload_n 2, 1) := by decide +kernel
theorem dX6_hang_3 : decode cX6_hang 3 = .ok (.iload_n 3, 1) := by decide +kernel
theorem dX6_hang_4 : decode cX6_hang 4 = .ok (.invokevirtual 88, 3) := by decide +kernel
theorem dX6_hang_7 : decode cX6_hang 7 = .ok (.istore 4, 2) := by decide +kernel
theorem dX6_hang_9 : decode cX6_hang 9 = .ok (.iload 4, 2) := by decide +kernel
theorem dX6_hang_11 : decode cX6_hang 11 = .ok (.ifCond .ge 6, 3) := by decide +kernel
theorem dX6_hang_14 : decode cX6_hang 14 = .ok (.iload 4, 2) := by decide +kernel
theorem dX6_hang_16 : decode cX6_hang 16 = .ok (.ireturn, 1) := by decide +kernel
theorem dX6_hang_17 : decode cX6_hang 17 = .ok (.aload_n 0, 1) := by decide +kernel
theorem dX6_hang_18 : decode cX6_hang 18 = .ok (.invokevirtual 85, 3) := by decide +kernel
theorem dX6_hang_21 : decode cX6_hang 21 = .ok (.aload_n 0, 1) := by decide +kernel
theorem dX6_hang_22 : decode cX6_hang 22 = .ok (.iload_n 1, 1) := by decide +kernel
theorem dX6_hang_23 : decode cX6_hang 23 = .ok (.iload_n 2, 1) := by decide +kernel
theorem dX6_hang_24 : decode cX6_hang 24 = .ok (.iload_n 3, 1) := by decide +kernel
theorem dX6_hang_25 : decode cX6_hang 25 = .ok (.invokevirtual 92, 3) := by decide +kernel
theorem dX6_hang_28 : decode cX6_hang 28 = .ok (.ireturn, 1) := by decide +kernel
set_option maxRecDepth 20000 in
theorem ggX6_ladder_X6_ladderFault : GoodIn wsX6_ladder wsX6_ladderFault := goodIn_r _ [5, 6, 7, 8, 4, 9, 20, 21, 22, 23, 24, 25, 26, 27, 28, 29, 30, 31, 32, 33, 34, 35, 36] (by decide +kernel) (by decide +kernel)
set_option maxRecDepth 20000 in
theorem gX6_ladder_X6_ladderFault : GoodIn wsX6_ladder (wsV RX6 95 RX6 yX6_ladderFault wsX6_ladderFault) := goodIn_app (goodIn_of _ (by decide +kernel)) ggX6_ladder_X6_ladderFault
set_option maxRecDepth 20000 in
theorem ggX6_ladder_X6_know : GoodIn wsX6_ladder wsX6_know := goodIn_r _ [13, 14, 15, 6, 20, 21, 22, 23, 24, 25, 26, 27, 28, 29, 30, 31, 32, 33, 34, 35, 36] (by decide +kernel) (by decide +kernel)
set_option maxRecDepth 20000 in
theorem gX6_ladder_X6_know : GoodIn wsX6_ladder (wsV RX6 85 RX6 yX6_know wsX6_know) := goodIn_app (goodIn_of _ (by decide +kernel)) ggX6_ladder_X6_know
set_option maxRecDepth 20000 in
theorem ggX6_ladder_X6_buys : GoodIn wsX6_ladder wsX6_buys := goodIn_r _ [19, 6, 20, 21, 22, 23, 24, 25, 26, 27, 28, 29, 30, 31, 32, 33, 34, 35, 36] (by decide +kernel) (by decide +kernel)
set_option maxRecDepth 20000 in
theorem gX6_ladder_X6_buys : GoodIn wsX6_ladder (wsV RX6 98 RX6 yX6_buys wsX6_buys) := goodIn_app (goodIn_of _ (by decide +kernel)) ggX6_ladder_X6_buys
theorem dX6_ladder_0 : decode cX6_ladder 0 = .ok (.aload_n 0, 1) := by decide +kernel
theorem dX6_ladder_1 : decode cX6_ladder 1 = .ok (.iload_n 1, 1) := by decide +kernel
theorem dX6_ladder_2 : decode cX6_ladder 2 = .ok (.invokevirtual 95, 3) := by decide +kernel
theorem dX6_ladder_5 : decode cX6_ladder 5 = .ok (.istore_n 2, 1) := by decide +kernel
theorem dX6_ladder_6 : decode cX6_ladder 6 = .ok (.iload_n 2, 1) := by decide +kernel
theorem dX6_ladder_7 : decode cX6_ladder 7 = .ok (.ifCond .ge 5, 3) := by decide +kernel
theorem dX6_ladder_10 : decode cX6_ladder 10 = .ok (.iload_n 2, 1) := by decide +kernel
theorem dX6_ladder_11 : decode cX6_ladder 11 = .ok (.ireturn, 1) := by decide +kernel
theorem dX6_ladder_12 : decode cX6_ladder 12 = .ok (.aload_n 0, 1) := by decide +kernel
theorem dX6_ladder_13 : decode cX6_ladder 13 = .ok (.invokevirtual 85, 3) := by decide +kernel
theorem dX6_ladder_16 : decode cX6_ladder 16 = .ok (.aload_n 0, 1) := by decide +kernel
theorem dX6_ladder_17 : decode cX6_ladder 17 = .ok (.iload_n 1, 1) := by decide +kernel
theorem dX6_ladder_18 : decode cX6_ladder 18 = .ok (.invokevirtual 98, 3) := by decide +kernel
theorem dX6_ladder_21 : decode cX6_ladder 21 = .ok (.ireturn, 1) := by decide +kernel
set_option maxRecDepth 20000 in
theorem ggX6_screw_X6_isClock : GoodIn wsX6_screw wsX6_isClock := goodIn_r _ [6, 1, 7, 8, 5, 9, 19, 20, 21, 22, 23, 24, 25, 26, 27, 28, 29, 30, 31, 32, 33, 34, 35] (by decide +kernel) (by decide +kernel)
set_option maxRecDepth 20000 in
theorem gX6_screw_X6_isClock : GoodIn wsX6_screw (wsV RX6 101 RX6 yX6_isClock wsX6_isClock) := goodIn_app (goodIn_of _ (by decide +kernel)) ggX6_screw_X6_isClock
set_option maxRecDepth 20000 in
theorem ggX6_screw_X6_in : GoodIn wsX6_screw wsX6_in := goodIn_r _ [9] (by decide +kernel) (by decide +kernel)
set_option maxRecDepth 20000 in
theorem gX6_screw_X6_in : GoodIn wsX6_screw (va_wsS RX6 35 yX6_in wsX6_in) := goodIn_app (goodIn_of _ (by decide +kernel)) ggX6_screw_X6_in
set_option maxRecDepth 20000 in
theorem ggX6_screw_X6_at : GoodIn wsX6_screw wsX6_at := goodIn_r _ [12] (by decide +kernel) (by decide +kernel)
set_option maxRecDepth 20000 in
theorem gX6_screw_X6_at : GoodIn wsX6_screw (va_wsS RX6 43 yX6_at wsX6_at) := goodIn_app (goodIn_of _ (by decide +kernel)) ggX6_screw_X6_at
set_option maxRecDepth 20000 in
theorem ggX6_screw_X6_know : GoodIn wsX6_screw wsX6_know := goodIn_r _ [16, 17, 18, 1, 19, 20, 21, 22, 23, 24, 25, 26, 27, 28, 29, 30, 31, 32, 33, 34, 35] (by decide +kernel) (by decide +kernel)
set_option maxRecDepth 20000 in
theorem gX6_screw_X6_know : GoodIn wsX6_screw (wsV RX6 85 RX6 yX6_know wsX6_know) := goodIn_app (goodIn_of _ (by decide +kernel)) ggX6_screw_X6_know
theorem dX6_screw_0 : decode cX6_screw 0 = .ok (.aload_n 0, 1) := by decide +kernel
theorem dX6_screw_1 : decode cX6_screw 1 = .ok (.iload_n 1, 1) := by decide +kernel
theorem dX6_screw_2 : decode cX6_screw 2 = .ok (.invokevirtual 101, 3) := by decide +kernel
theorem dX6_screw_5 : decode cX6_screw 5 = .ok (.ifCond .ne 5, 3) := by decide +kernel
theorem dX6_screw_8 : decode cX6_screw 8 = .ok (.iconst (-1), 1) := by decide +kernel
theorem dX6_screw_9 : decode cX6_screw 9 = .ok (.ireturn, 1) := by decide +kernel
theorem dX6_screw_10 : decode cX6_screw 10 = .ok (.iload_n 2, 1) := by decide +kernel
theorem dX6_screw_11 : decode cX6_screw 11 = .ok (.bipush (-20), 2) := by decide +kernel
theorem dX6_screw_13 : decode cX6_screw 13 = .ok (.bipush 20, 2) := by decide +kernel
theorem dX6_screw_15 : decode cX6_screw 15 = .ok (.invokestatic 35, 3) := by decide +kernel
theorem dX6_screw_18 : decode cX6_screw 18 = .ok (.ifCond .ne 6, 3) := by decide +kernel
theorem dX6_screw_21 : decode cX6_screw 21 = .ok (.bipush (-2), 2) := by decide +kernel
theorem dX6_screw_23 : decode cX6_screw 23 = .ok (.ireturn, 1) := by decide +kernel
theorem dX6_screw_24 : decode cX6_screw 24 = .ok (.aload_n 0, 1) := by decide +kernel
theorem dX6_screw_25 : decode cX6_screw 25 = .ok (.getfield 7, 3) := by decide +kernel
theorem dX6_screw_28 : decode cX6_screw 28 = .ok (.iload_n 1, 1) := by decide +kernel
theorem dX6_screw_29 : decode cX6_screw 29 = .ok (.iconst 3, 1) := by decide +kernel
theorem dX6_screw_30 : decode cX6_screw 30 = .ok (.invokestatic 43, 3) := by decide +kernel
theorem dX6_screw_33 : decode cX6_screw 33 = .ok (.iaload, 1) := by decide +kernel
theorem dX6_screw_34 : decode cX6_screw 34 = .ok (.iload_n 2, 1) := by decide +kernel
theorem dX6_screw_35 : decode cX6_screw 35 = .ok (.iadd, 1) := by decide +kernel
theorem dX6_screw_36 : decode cX6_screw 36 = .ok (.istore_n 3, 1) := by decide +kernel
theorem dX6_screw_37 : decode cX6_screw 37 = .ok (.iload_n 3, 1) := by decide +kernel
theorem dX6_screw_38 : decode cX6_screw 38 = .ok (.bipush (-20), 2) := by decide +kernel
theorem dX6_screw_40 : decode cX6_screw 40 = .ok (.bipush 20, 2) := by decide +kernel
theorem dX6_screw_42 : decode cX6_screw 42 = .ok (.invokestatic 35, 3) := by decide +kernel
theorem dX6_screw_45 : decode cX6_screw 45 = .ok (.ifCond .ne 6, 3) := by decide +kernel
theorem dX6_screw_48 : decode cX6_screw 48 = .ok (.bipush (-5), 2) := by decide +kernel
theorem dX6_screw_50 : decode cX6_screw 50 = .ok (.ireturn, 1) := by decide +kernel
theorem dX6_screw_51 : decode cX6_screw 51 = .ok (.aload_n 0, 1) := by decide +kernel
theorem dX6_screw_52 : decode cX6_screw 52 = .ok (.invokevirtual 85, 3) := by decide +kernel
theorem dX6_screw_55 : decode cX6_screw 55 = .ok (.aload_n 0, 1) := by decide +kernel
theorem dX6_screw_56 : decode cX6_screw 56 = .ok (.getfield 7, 3) := by decide +kernel
theorem dX6_screw_59 : decode cX6_screw 59 = .ok (.iload_n 1, 1) := by decide +kernel
theorem dX6_screw_60 : decode cX6_screw 60 = .ok (.iconst 3, 1) := by decide +kernel
theorem dX6_screw_61 : decode cX6_screw 61 = .ok (.invokestatic 43, 3) := by decide +kernel
theorem dX6_screw_64 : decode cX6_screw 64 = .ok (.iload_n 3, 1) := by decide +kernel
theorem dX6_screw_65 : decode cX6_screw 65 = .ok (.iastore, 1) := by decide +kernel
theorem dX6_screw_66 : decode cX6_screw 66 = .ok (.iload_n 3, 1) := by decide +kernel
theorem dX6_screw_67 : decode cX6_screw 67 = .ok (.bipush 20, 2) := by decide +kernel
theorem dX6_screw_69 : decode cX6_screw 69 = .ok (.iadd, 1) := by decide +kernel
theorem dX6_screw_70 : decode cX6_screw 70 = .ok (.ireturn, 1) := by decide +kernel
set_option maxRecDepth 20000 in
theorem ggX6_round_X6_layOut : GoodIn wsX6_round wsX6_layOut := goodIn_r _ [5, 6, 7, 8, 52, 53, 54, 55, 56, 57, 58, 59, 60, 61, 62, 63, 64, 65, 66, 67, 68] (by decide +kernel) (by decide +kernel)
set_option maxRecDepth 20000 in
theorem gX6_round_X6_layOut : GoodIn wsX6_round (wsV RX6 104 RX6 yX6_layOut wsX6_layOut) := goodIn_app (goodIn_of _ (by decide +kernel)) ggX6_round_X6_layOut
set_option maxRecDepth 20000 in
theorem ggX6_round_X6_know : GoodIn wsX6_round wsX6_know := goodIn_r _ [12, 13, 14, 7, 52, 53, 54, 55, 56, 57, 58, 59, 60, 61, 62, 63, 64, 65, 66, 67, 68] (by decide +kernel) (by decide +kernel)
set_option maxRecDepth 20000 in
theorem gX6_round_X6_know : GoodIn wsX6_round (wsV RX6 85 RX6 yX6_know wsX6_know) := goodIn_app (goodIn_of _ (by decide +kernel)) ggX6_round_X6_know
set_option maxRecDepth 20000 in
theorem ggX6_round_X6_goes : GoodIn wsX6_round wsX6_goes := goodIn_r _ [18, 6, 8, 7, 19, 20, 21, 4, 22, 23, 24, 25, 26, 27, 28, 29, 30, 31, 32, 33, 34, 35, 36, 37, 38, 39, 40, 41, 42, 43, 44, 45, 46, 47, 48, 49, 50, 51, 52, 53, 54, 55, 56, 57, 58, 59, 60, 61, 62, 63, 64, 65, 66, 67, 68] (by decide +kernel) (by decide +kernel)
set_option maxRecDepth 20000 in
theorem gX6_round_X6_goes : GoodIn wsX6_round (wsV RX6 108 RX6 yX6_goes wsX6_goes) := goodIn_app (goodIn_of _ (by decide +kernel)) ggX6_round_X6_goes
theorem dX6_round_0 : decode cX6_round 0 = .ok (.aload_n 0, 1) := by decide +kernel
theorem dX6_round_1 : decode cX6_round 1 = .ok (.iload_n 1, 1) := by decide +kernel
theorem dX6_round_2 : decode cX6_round 2 = .ok (.iconst 0, 1) := by decide +kernel
theorem dX6_round_3 : decode cX6_round 3 = .ok (.invokevirtual 104, 3) := by decide +kernel
theorem dX6_round_6 : decode cX6_round 6 = .ok (.istore_n 2, 1) := by decide +kernel
theorem dX6_round_7 : decode cX6_round 7 = .ok (.iload_n 2, 1) := by decide +kernel
theorem dX6_round_8 : decode cX6_round 8 = .ok (.ifCond .ge 5, 3) := by decide +kernel
theorem dX6_round_11 : decode cX6_round 11 = .ok (.iload_n 2, 1) := by decide +kernel
theorem dX6_round_12 : decode cX6_round 12 = .ok (.ireturn, 1) := by decide +kernel
theorem dX6_round_13 : decode cX6_round 13 = .ok (.aload_n 0, 1) := by decide +kernel
theorem dX6_round_14 : decode cX6_round 14 = .ok (.invokevirtual 85, 3) := by decide +kernel
theorem dX6_round_17 : decode cX6_round 17 = .ok (.aload_n 0, 1) := by decide +kernel
theorem dX6_round_18 : decode cX6_round 18 = .ok (.invokevirtual 108, 3) := by decide +kernel
theorem dX6_round_21 : decode cX6_round 21 = .ok (.ireturn, 1) := by decide +kernel
set_option maxRecDepth 20000 in
theorem ggX6_pass_X6_passFault : GoodIn wsX6_pass wsX6_passFault := goodIn_r _ [5, 6, 7, 8, 4, 9, 39, 40, 41, 42, 43, 44, 45, 46, 47, 48, 49, 50, 51, 52, 53, 54, 55] (by decide +kernel) (by decide +kernel)
set_option maxRecDepth 20000 in
theorem gX6_pass_X6_passFault : GoodIn wsX6_pass (wsV RX6 111 RX6 yX6_passFault wsX6_passFault) := goodIn_app (goodIn_of _ (by decide +kernel)) ggX6_pass_X6_passFault
set_option maxRecDepth 20000 in
theorem ggX6_pass_X6_know : GoodIn wsX6_pass wsX6_know := goodIn_r _ [13, 14, 15, 6, 39, 40, 41, 42, 43, 44, 45, 46, 47, 48, 49, 50, 51, 52, 53, 54, 55] (by decide +kernel) (by decide +kernel)
set_option maxRecDepth 20000 in
theorem gX6_pass_X6_know : GoodIn wsX6_pass (wsV RX6 85 RX6 yX6_know wsX6_know) := goodIn_app (goodIn_of _ (by decide +kernel)) ggX6_pass_X6_know
set_option maxRecDepth 20000 in
theorem ggX6_pass_X6_passes : GoodIn wsX6_pass wsX6_passes := goodIn_r _ [19, 6, 20, 21, 22, 4, 23, 24, 25, 26, 27, 28, 29, 30, 31, 32, 33, 34, 35, 36, 37, 38, 39, 40, 41, 42, 43, 44, 45, 46, 47, 48, 49, 50, 51, 52, 53, 54, 55] (by decide +kernel) (by decide +kernel)
set_option maxRecDepth 20000 in
theorem gX6_pass_X6_passes : GoodIn wsX6_pass (wsV RX6 114 RX6 yX6_passes wsX6_passes) := goodIn_app (goodIn_of _ (by decide +kernel)) ggX6_pass_X6_passes
theorem dX6_pass_0 : decode cX6_pass 0 = .ok (.aload_n 0, 1) := by decide +kernel
theorem dX6_pass_1 : decode cX6_pass 1 = .ok (.iload_n 1, 1) := by decide +kernel
theorem dX6_pass_2 : decode cX6_pass 2 = .ok (.invokevirtual 111, 3) := by decide +kernel
theorem dX6_pass_5 : decode cX6_pass 5 = .ok (.istore_n 2, 1) := by decide +kernel
theorem dX6_pass_6 : decode cX6_pass 6 = .ok (.iload_n 2, 1) := by decide +kernel
theorem dX6_pass_7 : decode cX6_pass 7 = .ok (.ifCond .ge 5, 3) := by decide +kernel
theorem dX6_pass_10 : decode cX6_pass 10 = .ok (.iload_n 2, 1) := by decide +kernel
theorem dX6_pass_11 : decode cX6_pass 11 = .ok (.ireturn, 1) := by decide +kernel
theorem dX6_pass_12 : decode cX6_pass 12 = .ok (.aload_n 0, 1) := by decide +kernel
theorem dX6_pass_13 : decode cX6_pass 13 = .ok (.invokevirtual 85, 3) := by decide +kernel
theorem dX6_pass_16 : decode cX6_pass 16 = .ok (.aload_n 0, 1) := by decide +kernel
theorem dX6_pass_17 : decode cX6_pass 17 = .ok (.iload_n 1, 1) := by decide +kernel
theorem dX6_pass_18 : decode cX6_pass 18 = .ok (.invokevirtual 114, 3) := by decide +kernel
theorem dX6_pass_21 : decode cX6_pass 21 = .ok (.ireturn, 1) := by decide +kernel
set_option maxRecDepth 20000 in
theorem ggX6_change_X6_in : GoodIn wsX6_change wsX6_in := goodIn_r _ [4] (by decide +kernel) (by decide +kernel)
set_option maxRecDepth 20000 in
theorem gX6_change_X6_in : GoodIn wsX6_change (va_wsS RX6 35 yX6_in wsX6_in) := goodIn_app (goodIn_of _ (by decide +kernel)) ggX6_change_X6_in
set_option maxRecDepth 20000 in
theorem ggX6_change_X6_know : GoodIn wsX6_change wsX6_know := goodIn_r _ [8, 9, 10, 11, 26, 27, 28, 29, 30, 31, 32, 33, 34, 35, 36, 37, 38, 39, 40, 41, 42] (by decide +kernel) (by decide +kernel)
set_option maxRecDepth 20000 in
theorem gX6_change_X6_know : GoodIn wsX6_change (wsV RX6 85 RX6 yX6_know wsX6_know) := goodIn_app (goodIn_of _ (by decide +kernel)) ggX6_change_X6_know
set_option maxRecDepth 20000 in
theorem ggX6_change_X6_changes : GoodIn wsX6_change wsX6_changes := goodIn_r _ [15, 11, 16, 17, 3, 18, 19, 20, 21, 22, 23, 24, 25, 26, 27, 28, 29, 30, 31, 32, 33, 34, 35, 36, 37, 38, 39, 40, 41, 42] (by decide +kernel) (by decide +kernel)
set_option maxRecDepth 20000 in
theorem gX6_change_X6_changes : GoodIn wsX6_change (wsV RX6 117 RX6 yX6_changes wsX6_changes) := goodIn_app (goodIn_of _ (by decide +kernel)) ggX6_change_X6_changes
theorem dX6_change_0 : decode cX6_change 0 = .ok (.iload_n 1, 1) := by decide +kernel
theorem dX6_change_1 : decode cX6_change 1 = .ok (.iconst 0, 1) := by decide +kernel
theorem dX6_change_2 : decode cX6_change 2 = .ok (.iconst 1, 1) := by decide +kernel
theorem dX6_change_3 : decode cX6_change 3 = .ok (.invokestatic 35, 3) := by decide +kernel
theorem dX6_change_6 : decode cX6_change 6 = .ok (.ifCond .ne 6, 3) := by decide +kernel
theorem dX6_change_9 : decode cX6_change 9 = .ok (.bipush (-2), 2) := by decide +kernel
theorem dX6_change_11 : decode cX6_change 11 = .ok (.ireturn, 1) := by decide +kernel
theorem dX6_change_12 : decode cX6_change 12 = .ok (.aload_n 0, 1) := by decide +kernel
theorem dX6_change_13 : decode cX6_change 13 = .ok (.invokevirtual 85, 3) := by decide +kernel
theorem dX6_change_16 : decode cX6_change 16 = .ok (.aload_n 0, 1) := by decide +kernel
theorem dX6_change_17 : decode cX6_change 17 = .ok (.iload_n 1, 1) := by decide +kernel
theorem dX6_change_18 : decode cX6_change 18 = .ok (.invokevirtual 117, 3) := by decide +kernel
theorem dX6_change_21 : decode cX6_change 21 = .ok (.ireturn, 1) := by decide +kernel
set_option maxRecDepth 20000 in
theorem ggX6_of_X6_isClock : GoodIn wsX6_of wsX6_isClock := goodIn_r _ [7, 1, 8, 9, 6, 10, 29, 30, 31, 32, 33, 34, 35, 36, 37, 38, 39, 40, 41, 42, 43, 44, 45] (by decide +kernel) (by decide +kernel)
set_option maxRecDepth 20000 in
theorem gX6_of_X6_isClock : GoodIn wsX6_of (wsV RX6 101 RX6 yX6_isClock wsX6_isClock) := goodIn_app (goodIn_of _ (by decide +kernel)) ggX6_of_X6_isClock
set_option maxRecDepth 20000 in
theorem ggX6_of_X6_at : GoodIn wsX6_of wsX6_at := goodIn_r _ [13] (by decide +kernel) (by decide +kernel)
set_option maxRecDepth 20000 in
theorem gX6_of_X6_at : GoodIn wsX6_of (va_wsS RX6 43 yX6_at wsX6_at) := goodIn_app (goodIn_of _ (by decide +kernel)) ggX6_of_X6_at
set_option maxRecDepth 20000 in
theorem ggX6_of_X6_isOff : GoodIn wsX6_of wsX6_isOff := goodIn_r _ [17, 1, 11, 12, 6, 13, 18, 19, 20, 29, 30, 31, 32, 33, 34, 35, 36, 37, 38, 39, 40, 41, 42, 43, 44, 45] (by decide +kernel) (by decide +kernel)
set_option maxRecDepth 20000 in
theorem gX6_of_X6_isOff : GoodIn wsX6_of (wsV RX6 121 RX6 yX6_isOff wsX6_isOff) := goodIn_app (goodIn_of _ (by decide +kernel)) ggX6_of_X6_isOff
set_option maxRecDepth 20000 in
theorem ggX6_of_X6_ladderOf : GoodIn wsX6_of wsX6_ladderOf := goodIn_r _ [24, 1, 11, 12, 6, 13, 29, 30, 31, 32, 33, 34, 35, 36, 37, 38, 39, 40, 41, 42, 43, 44, 45] (by decide +kernel) (by decide +kernel)
set_option maxRecDepth 20000 in
theorem gX6_of_X6_ladderOf : GoodIn wsX6_of (wsV RX6 51 RX6 yX6_ladderOf wsX6_ladderOf) := goodIn_app (goodIn_of _ (by decide +kernel)) ggX6_of_X6_ladderOf
set_option maxRecDepth 20000 in
theorem ggX6_of_X6_canWind : GoodIn wsX6_of wsX6_canWind := goodIn_r _ [28, 1, 11, 12, 6, 13, 21, 22, 23, 24, 29, 30, 31, 32, 33, 34, 35, 36, 37, 38, 39, 40, 41, 42, 43, 44, 45] (by decide +kernel) (by decide +kernel)
set_option maxRecDepth 20000 in
theorem gX6_of_X6_canWind : GoodIn wsX6_of (wsV RX6 64 RX6 yX6_canWind wsX6_canWind) := goodIn_app (goodIn_of _ (by decide +kernel)) ggX6_of_X6_canWind
