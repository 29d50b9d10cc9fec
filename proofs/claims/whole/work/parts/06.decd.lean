theorem dX6_of_0 : decode cX6_of 0 = .ok (.aload_n 0, 1) := by decide +kernel
theorem dX6_of_1 : decode cX6_of 1 = .ok (.iload_n 1, 1) := by decide +kernel
theorem dX6_of_2 : decode cX6_of 2 = .ok (.invokevirtual 101, 3) := by decide +kernel
theorem dX6_of_5 : decode cX6_of 5 = .ok (.ifCond .ne 5, 3) := by decide +kernel
theorem dX6_of_8 : decode cX6_of 8 = .ok (.iconst (-1), 1) := by decide +kernel
theorem dX6_of_9 : decode cX6_of 9 = .ok (.ireturn, 1) := by decide +kernel
theorem dX6_of_10 : decode cX6_of 10 = .ok (.iload_n 2, 1) := by decide +kernel
theorem dX6_of_11 : decode cX6_of 11 = .ok (.tableswitch 167 0 10 #[57, 57, 68, 82, 96, 110, 110, 121, 135, 141, 155], 57) := by decide +kernel
theorem dX6_of_68 : decode cX6_of 68 = .ok (.aload_n 0, 1) := by decide +kernel
theorem dX6_of_69 : decode cX6_of 69 = .ok (.getfield 7, 3) := by decide +kernel
theorem dX6_of_72 : decode cX6_of 72 = .ok (.iload_n 1, 1) := by decide +kernel
theorem dX6_of_73 : decode cX6_of 73 = .ok (.iload_n 2, 1) := by decide +kernel
theorem dX6_of_74 : decode cX6_of 74 = .ok (.invokestatic 43, 3) := by decide +kernel
theorem dX6_of_77 : decode cX6_of 77 = .ok (.iaload, 1) := by decide +kernel
theorem dX6_of_78 : decode cX6_of 78 = .ok (.ireturn, 1) := by decide +kernel
theorem dX6_of_79 : decode cX6_of 79 = .ok (.aload_n 0, 1) := by decide +kernel
theorem dX6_of_80 : decode cX6_of 80 = .ok (.getfield 7, 3) := by decide +kernel
theorem dX6_of_83 : decode cX6_of 83 = .ok (.iload_n 1, 1) := by decide +kernel
theorem dX6_of_84 : decode cX6_of 84 = .ok (.iconst 2, 1) := by decide +kernel
theorem dX6_of_85 : decode cX6_of 85 = .ok (.invokestatic 43, 3) := by decide +kernel
theorem dX6_of_88 : decode cX6_of 88 = .ok (.iaload, 1) := by decide +kernel
theorem dX6_of_89 : decode cX6_of 89 = .ok (.bipush 100, 2) := by decide +kernel
theorem dX6_of_91 : decode cX6_of 91 = .ok (.iadd, 1) := by decide +kernel
theorem dX6_of_92 : decode cX6_of 92 = .ok (.ireturn, 1) := by decide +kernel
theorem dX6_of_93 : decode cX6_of 93 = .ok (.aload_n 0, 1) := by decide +kernel
theorem dX6_of_94 : decode cX6_of 94 = .ok (.getfield 7, 3) := by decide +kernel
theorem dX6_of_97 : decode cX6_of 97 = .ok (.iload_n 1, 1) := by decide +kernel
theorem dX6_of_98 : decode cX6_of 98 = .ok (.iconst 3, 1) := by decide +kernel
theorem dX6_of_99 : decode cX6_of 99 = .ok (.invokestatic 43, 3) := by decide +kernel
theorem dX6_of_102 : decode cX6_of 102 = .ok (.iaload, 1) := by decide +kernel
theorem dX6_of_103 : decode cX6_of 103 = .ok (.bipush 20, 2) := by decide +kernel
theorem dX6_of_105 : decode cX6_of 105 = .ok (.iadd, 1) := by decide +kernel
theorem dX6_of_106 : decode cX6_of 106 = .ok (.ireturn, 1) := by decide +kernel
theorem dX6_of_107 : decode cX6_of 107 = .ok (.aload_n 0, 1) := by decide +kernel
theorem dX6_of_108 : decode cX6_of 108 = .ok (.getfield 7, 3) := by decide +kernel
theorem dX6_of_111 : decode cX6_of 111 = .ok (.iload_n 1, 1) := by decide +kernel
theorem dX6_of_112 : decode cX6_of 112 = .ok (.iconst 4, 1) := by decide +kernel
theorem dX6_of_113 : decode cX6_of 113 = .ok (.invokestatic 43, 3) := by decide +kernel
theorem dX6_of_116 : decode cX6_of 116 = .ok (.iaload, 1) := by decide +kernel
theorem dX6_of_117 : decode cX6_of 117 = .ok (.ldc 120, 2) := by decide +kernel
theorem dX6_of_119 : decode cX6_of 119 = .ok (.iadd, 1) := by decide +kernel
theorem dX6_of_120 : decode cX6_of 120 = .ok (.ireturn, 1) := by decide +kernel
theorem dX6_of_121 : decode cX6_of 121 = .ok (.aload_n 0, 1) := by decide +kernel
theorem dX6_of_122 : decode cX6_of 122 = .ok (.getfield 7, 3) := by decide +kernel
theorem dX6_of_125 : decode cX6_of 125 = .ok (.iload_n 1, 1) := by decide +kernel
theorem dX6_of_126 : decode cX6_of 126 = .ok (.iload_n 2, 1) := by decide +kernel
theorem dX6_of_127 : decode cX6_of 127 = .ok (.invokestatic 43, 3) := by decide +kernel
theorem dX6_of_130 : decode cX6_of 130 = .ok (.iaload, 1) := by decide +kernel
theorem dX6_of_131 : decode cX6_of 131 = .ok (.ireturn, 1) := by decide +kernel
theorem dX6_of_132 : decode cX6_of 132 = .ok (.aload_n 0, 1) := by decide +kernel
theorem dX6_of_133 : decode cX6_of 133 = .ok (.iload_n 1, 1) := by decide +kernel
theorem dX6_of_134 : decode cX6_of 134 = .ok (.invokevirtual 121, 3) := by decide +kernel
theorem dX6_of_137 : decode cX6_of 137 = .ok (.ifCond .eq 7, 3) := by decide +kernel
theorem dX6_of_140 : decode cX6_of 140 = .ok (.iconst 0, 1) := by decide +kernel
theorem dX6_of_141 : decode cX6_of 141 = .ok (.goto 4, 3) := by decide +kernel
theorem dX6_of_144 : decode cX6_of 144 = .ok (.iconst 1, 1) := by decide +kernel
theorem dX6_of_145 : decode cX6_of 145 = .ok (.ireturn, 1) := by decide +kernel
theorem dX6_of_146 : decode cX6_of 146 = .ok (.aload_n 0, 1) := by decide +kernel
theorem dX6_of_147 : decode cX6_of 147 = .ok (.iload_n 1, 1) := by decide +kernel
theorem dX6_of_148 : decode cX6_of 148 = .ok (.invokevirtual 51, 3) := by decide +kernel
theorem dX6_of_151 : decode cX6_of 151 = .ok (.ireturn, 1) := by decide +kernel
theorem dX6_of_152 : decode cX6_of 152 = .ok (.aload_n 0, 1) := by decide +kernel
theorem dX6_of_153 : decode cX6_of 153 = .ok (.iload_n 1, 1) := by decide +kernel
theorem dX6_of_154 : decode cX6_of 154 = .ok (.invokevirtual 64, 3) := by decide +kernel
theorem dX6_of_157 : decode cX6_of 157 = .ok (.ifCond .eq 7, 3) := by decide +kernel
theorem dX6_of_160 : decode cX6_of 160 = .ok (.iconst 1, 1) := by decide +kernel
theorem dX6_of_161 : decode cX6_of 161 = .ok (.goto 4, 3) := by decide +kernel
theorem dX6_of_164 : decode cX6_of 164 = .ok (.iconst 0, 1) := by decide +kernel
theorem dX6_of_165 : decode cX6_of 165 = .ok (.ireturn, 1) := by decide +kernel
theorem dX6_of_166 : decode cX6_of 166 = .ok (.aload_n 0, 1) := by decide +kernel
theorem dX6_of_167 : decode cX6_of 167 = .ok (.getfield 7, 3) := by decide +kernel
theorem dX6_of_170 : decode cX6_of 170 = .ok (.iload_n 1, 1) := by decide +kernel
theorem dX6_of_171 : decode cX6_of 171 = .ok (.bipush 7, 2) := by decide +kernel
theorem dX6_of_173 : decode cX6_of 173 = .ok (.invokestatic 43, 3) := by decide +kernel
theorem dX6_of_176 : decode cX6_of 176 = .ok (.iaload, 1) := by decide +kernel
theorem dX6_of_177 : decode cX6_of 177 = .ok (.ireturn, 1) := by decide +kernel
theorem dX6_of_178 : decode cX6_of 178 = .ok (.bipush (-2), 2) := by decide +kernel
theorem dX6_of_180 : decode cX6_of 180 = .ok (.ireturn, 1) := by decide +kernel
set_option maxRecDepth 20000 in
theorem ggX6_ofLadder_X6_in : GoodIn wsX6_ofLadder wsX6_in := goodIn_r _ [5] (by decide +kernel) (by decide +kernel)
set_option maxRecDepth 20000 in
theorem gX6_ofLadder_X6_in : GoodIn wsX6_ofLadder (va_wsS RX6 35 yX6_in wsX6_in) := goodIn_app (goodIn_of _ (by decide +kernel)) ggX6_ofLadder_X6_in
theorem dX6_ofLadder_0 : decode cX6_ofLadder 0 = .ok (.iload_n 1, 1) := by decide +kernel
theorem dX6_ofLadder_1 : decode cX6_ofLadder 1 = .ok (.iconst 0, 1) := by decide +kernel
theorem dX6_ofLadder_2 : decode cX6_ofLadder 2 = .ok (.aload_n 0, 1) := by decide +kernel
theorem dX6_ofLadder_3 : decode cX6_ofLadder 3 = .ok (.getfield 7, 3) := by decide +kernel
theorem dX6_ofLadder_6 : decode cX6_ofLadder 6 = .ok (.bipush 6, 2) := by decide +kernel
theorem dX6_ofLadder_8 : decode cX6_ofLadder 8 = .ok (.iaload, 1) := by decide +kernel
theorem dX6_ofLadder_9 : decode cX6_ofLadder 9 = .ok (.iconst 1, 1) := by decide +kernel
theorem dX6_ofLadder_10 : decode cX6_ofLadder 10 = .ok (.isub, 1) := by decide +kernel
theorem dX6_ofLadder_11 : decode cX6_ofLadder 11 = .ok (.invokestatic 35, 3) := by decide +kernel
theorem dX6_ofLadder_14 : decode cX6_ofLadder 14 = .ok (.ifCond .eq 15, 3) := by decide +kernel
theorem dX6_ofLadder_17 : decode cX6_ofLadder 17 = .ok (.aload_n 0, 1) := by decide +kernel
theorem dX6_ofLadder_18 : decode cX6_ofLadder 18 = .ok (.getfield 7, 3) := by decide +kernel
theorem dX6_ofLadder_21 : decode cX6_ofLadder 21 = .ok (.bipush 8, 2) := by decide +kernel
theorem dX6_ofLadder_23 : decode cX6_ofLadder 23 = .ok (.iload_n 1, 1) := by decide +kernel
theorem dX6_ofLadder_24 : decode cX6_ofLadder 24 = .ok (.iadd, 1) := by decide +kernel
theorem dX6_ofLadder_25 : decode cX6_ofLadder 25 = .ok (.iaload, 1) := by decide +kernel
theorem dX6_ofLadder_26 : decode cX6_ofLadder 26 = .ok (.goto 4, 3) := by decide +kernel
theorem dX6_ofLadder_29 : decode cX6_ofLadder 29 = .ok (.iconst (-1), 1) := by decide +kernel
theorem dX6_ofLadder_30 : decode cX6_ofLadder 30 = .ok (.ireturn, 1) := by decide +kernel
set_option maxRecDepth 20000 in
theorem ggX6_sum_X6_at : GoodIn wsX6_sum wsX6_at := goodIn_r _ [5] (by decide +kernel) (by decide +kernel)
set_option maxRecDepth 20000 in
theorem gX6_sum_X6_at : GoodIn wsX6_sum (va_wsS RX6 43 yX6_at wsX6_at) := goodIn_app (goodIn_of _ (by decide +kernel)) ggX6_sum_X6_at
set_option maxRecDepth 20000 in
theorem ggX6_sum_X6_isOff : GoodIn wsX6_sum wsX6_isOff := goodIn_r _ [9, 1, 2, 3, 4, 5, 10, 11, 12, 21, 22, 23, 24, 25, 26, 27, 28, 29, 30, 31, 32, 33, 34, 35, 36, 37] (by decide +kernel) (by decide +kernel)
set_option maxRecDepth 20000 in
theorem gX6_sum_X6_isOff : GoodIn wsX6_sum (wsV RX6 121 RX6 yX6_isOff wsX6_isOff) := goodIn_app (goodIn_of _ (by decide +kernel)) ggX6_sum_X6_isOff
set_option maxRecDepth 20000 in
theorem ggX6_sum_X6_canWind : GoodIn wsX6_sum wsX6_canWind := goodIn_r _ [16, 1, 2, 3, 4, 5, 17, 18, 19, 20, 21, 22, 23, 24, 25, 26, 27, 28, 29, 30, 31, 32, 33, 34, 35, 36, 37] (by decide +kernel) (by decide +kernel)
set_option maxRecDepth 20000 in
theorem gX6_sum_X6_canWind : GoodIn wsX6_sum (wsV RX6 64 RX6 yX6_canWind wsX6_canWind) := goodIn_app (goodIn_of _ (by decide +kernel)) ggX6_sum_X6_canWind
theorem dX6_sum_0 : decode cX6_sum 0 = .ok (.iconst 0, 1) := by decide +kernel
theorem dX6_sum_1 : decode cX6_sum 1 = .ok (.istore_n 2, 1) := by decide +kernel
theorem dX6_sum_2 : decode cX6_sum 2 = .ok (.iconst 0, 1) := by decide +kernel
theorem dX6_sum_3 : decode cX6_sum 3 = .ok (.istore_n 3, 1) := by decide +kernel
theorem dX6_sum_4 : decode cX6_sum 4 = .ok (.iload_n 3, 1) := by decide +kernel
theorem dX6_sum_5 : decode cX6_sum 5 = .ok (.aload_n 0, 1) := by decide +kernel
theorem dX6_sum_6 : decode cX6_sum 6 = .ok (.getfield 7, 3) := by decide +kernel
theorem dX6_sum_9 : decode cX6_sum 9 = .ok (.iconst 5, 1) := by decide +kernel
theorem dX6_sum_10 : decode cX6_sum 10 = .ok (.iaload, 1) := by decide +kernel
theorem dX6_sum_11 : decode cX6_sum 11 = .ok (.if_icmp .ge 61, 3) := by decide +kernel
theorem dX6_sum_14 : decode cX6_sum 14 = .ok (.iload_n 2, 1) := by decide +kernel
theorem dX6_sum_15 : decode cX6_sum 15 = .ok (.iload_n 1, 1) := by decide +kernel
theorem dX6_sum_16 : decode cX6_sum 16 = .ok (.bipush 7, 2) := by decide +kernel
theorem dX6_sum_18 : decode cX6_sum 18 = .ok (.if_icmp .ne 17, 3) := by decide +kernel
theorem dX6_sum_21 : decode cX6_sum 21 = .ok (.aload_n 0, 1) := by decide +kernel
theorem dX6_sum_22 : decode cX6_sum 22 = .ok (.getfield 7, 3) := by decide +kernel
theorem dX6_sum_25 : decode cX6_sum 25 = .ok (.iload_n 3, 1) := by decide +kernel
theorem dX6_sum_26 : decode cX6_sum 26 = .ok (.bipush 7, 2) := by decide +kernel
theorem dX6_sum_28 : decode cX6_sum 28 = .ok (.invokestatic 43, 3) := by decide +kernel
theorem dX6_sum_31 : decode cX6_sum 31 = .ok (.iaload, 1) := by decide +kernel
theorem dX6_sum_32 : decode cX6_sum 32 = .ok (.goto 32, 3) := by decide +kernel
theorem dX6_sum_35 : decode cX6_sum 35 = .ok (.iload_n 1, 1) := by decide +kernel
theorem dX6_sum_36 : decode cX6_sum 36 = .ok (.iconst 4, 1) := by decide +kernel
theorem dX6_sum_37 : decode cX6_sum 37 = .ok (.if_icmp .ne 14, 3) := by decide +kernel
theorem dX6_sum_40 : decode cX6_sum 40 = .ok (.aload_n 0, 1) := by decide +kernel
theorem dX6_sum_41 : decode cX6_sum 41 = .ok (.iload_n 3, 1) := by decide +kernel
theorem dX6_sum_42 : decode cX6_sum 42 = .ok (.invokevirtual 121, 3) := by decide +kernel
theorem dX6_sum_45 : decode cX6_sum 45 = .ok (.ifCond .eq 18, 3) := by decide +kernel
theorem dX6_sum_48 : decode cX6_sum 48 = .ok (.goto 11, 3) := by decide +kernel
theorem dX6_sum_51 : decode cX6_sum 51 = .ok (.aload_n 0, 1) := by decide +kernel
theorem dX6_sum_52 : decode cX6_sum 52 = .ok (.iload_n 3, 1) := by decide +kernel
theorem dX6_sum_53 : decode cX6_sum 53 = .ok (.invokevirtual 64, 3) := by decide +kernel
theorem dX6_sum_56 : decode cX6_sum 56 = .ok (.ifCond .ne 7, 3) := by decide +kernel
theorem dX6_sum_59 : decode cX6_sum 59 = .ok (.iconst 1, 1) := by decide +kernel
theorem dX6_sum_60 : decode cX6_sum 60 = .ok (.goto 4, 3) := by decide +kernel
theorem dX6_sum_63 : decode cX6_sum 63 = .ok (.iconst 0, 1) := by decide +kernel
theorem dX6_sum_64 : decode cX6_sum 64 = .ok (.iadd, 1) := by decide +kernel
theorem dX6_sum_65 : decode cX6_sum 65 = .ok (.istore_n 2, 1) := by decide +kernel
theorem dX6_sum_66 : decode cX6_sum 66 = .ok (.iinc 3 1, 3) := by decide +kernel
theorem dX6_sum_69 : decode cX6_sum 69 = .ok (.goto (-65), 3) := by decide +kernel
theorem dX6_sum_72 : decode cX6_sum 72 = .ok (.iload_n 2, 1) := by decide +kernel
theorem dX6_sum_73 : decode cX6_sum 73 = .ok (.ireturn, 1) := by decide +kernel
set_option maxRecDepth 20000 in
theorem ggX6_count_X6_still : GoodIn wsX6_count wsX6_still := goodIn_r _ [8, 1, 9, 10, 7, 11, 31, 32, 33, 34, 35, 36, 37, 38, 39, 40, 41, 42, 43, 44, 45, 46, 47] (by decide +kernel) (by decide +kernel)
set_option maxRecDepth 20000 in
theorem gX6_count_X6_still : GoodIn wsX6_count (wsV RX6 79 RX6 yX6_still wsX6_still) := goodIn_app (goodIn_of _ (by decide +kernel)) ggX6_count_X6_still
set_option maxRecDepth 20000 in
theorem ggX6_count_X6_sum : GoodIn wsX6_count wsX6_sum := goodIn_r _ [15, 1, 9, 10, 7, 11, 16, 17, 18, 19, 20, 21, 22, 23, 24, 25, 26, 27, 28, 29, 30, 31, 32, 33, 34, 35, 36, 37, 38, 39, 40, 41, 42, 43, 44, 45, 46, 47] (by decide +kernel) (by decide +kernel)
set_option maxRecDepth 20000 in
theorem gX6_count_X6_sum : GoodIn wsX6_count (wsV RX6 124 RX6 yX6_sum wsX6_sum) := goodIn_app (goodIn_of _ (by decide +kernel)) ggX6_count_X6_sum
theorem dX6_count_0 : decode cX6_count 0 = .ok (.iload_n 1, 1) := by decide +kernel
theorem dX6_count_1 : decode cX6_count 1 = .ok (.tableswitch 121 0 13 #[71, 71, 71, 80, 85, 85, 91, 85, 99, 99, 99, 99, 111, 116], 71) := by decide +kernel
theorem dX6_count_72 : decode cX6_count 72 = .ok (.aload_n 0, 1) := by decide +kernel
theorem dX6_count_73 : decode cX6_count 73 = .ok (.getfield 7, 3) := by decide +kernel
theorem dX6_count_76 : decode cX6_count 76 = .ok (.iconst 4, 1) := by decide +kernel
theorem dX6_count_77 : decode cX6_count 77 = .ok (.iload_n 1, 1) := by decide +kernel
theorem dX6_count_78 : decode cX6_count 78 = .ok (.iadd, 1) := by decide +kernel
theorem dX6_count_79 : decode cX6_count 79 = .ok (.iaload, 1) := by decide +kernel
theorem dX6_count_80 : decode cX6_count 80 = .ok (.ireturn, 1) := by decide +kernel
theorem dX6_count_81 : decode cX6_count 81 = .ok (.aload_n 0, 1) := by decide +kernel
theorem dX6_count_82 : decode cX6_count 82 = .ok (.invokevirtual 79, 3) := by decide +kernel
theorem dX6_count_85 : decode cX6_count 85 = .ok (.ireturn, 1) := by decide +kernel
theorem dX6_count_86 : decode cX6_count 86 = .ok (.aload_n 0, 1) := by decide +kernel
theorem dX6_count_87 : decode cX6_count 87 = .ok (.iload_n 1, 1) := by decide +kernel
theorem dX6_count_88 : decode cX6_count 88 = .ok (.invokevirtual 124, 3) := by decide +kernel
theorem dX6_count_91 : decode cX6_count 91 = .ok (.ireturn, 1) := by decide +kernel
theorem dX6_count_92 : decode cX6_count 92 = .ok (.aload_n 0, 1) := by decide +kernel
theorem dX6_count_93 : decode cX6_count 93 = .ok (.getfield 7, 3) := by decide +kernel
theorem dX6_count_96 : decode cX6_count 96 = .ok (.bipush 7, 2) := by decide +kernel
theorem dX6_count_98 : decode cX6_count 98 = .ok (.iaload, 1) := by decide +kernel
theorem dX6_count_99 : decode cX6_count 99 = .ok (.ireturn, 1) := by decide +kernel
theorem dX6_count_100 : decode cX6_count 100 = .ok (.aload_n 0, 1) := by decide +kernel
theorem dX6_count_101 : decode cX6_count 101 = .ok (.getfield 7, 3) := by decide +kernel
theorem dX6_count_104 : decode cX6_count 104 = .ok (.iconst 0, 1) := by decide +kernel
theorem dX6_count_105 : decode cX6_count 105 = .ok (.iload_n 1, 1) := by decide +kernel
theorem dX6_count_106 : decode cX6_count 106 = .ok (.iadd, 1) := by decide +kernel
theorem dX6_count_107 : decode cX6_count 107 = .ok (.bipush 8, 2) := by decide +kernel
theorem dX6_count_109 : decode cX6_count 109 = .ok (.isub, 1) := by decide +kernel
theorem dX6_count_110 : decode cX6_count 110 = .ok (.iaload, 1) := by decide +kernel
theorem dX6_count_111 : decode cX6_count 111 = .ok (.ireturn, 1) := by decide +kernel
theorem dX6_count_112 : decode cX6_count 112 = .ok (.aload_n 0, 1) := by decide +kernel
theorem dX6_count_113 : decode cX6_count 113 = .ok (.getfield 127, 3) := by decide +kernel
theorem dX6_count_116 : decode cX6_count 116 = .ok (.ireturn, 1) := by decide +kernel
theorem dX6_count_117 : decode cX6_count 117 = .ok (.aload_n 0, 1) := by decide +kernel
theorem dX6_count_118 : decode cX6_count 118 = .ok (.getfield 39, 3) := by decide +kernel
theorem dX6_count_121 : decode cX6_count 121 = .ok (.ireturn, 1) := by decide +kernel
theorem dX6_count_122 : decode cX6_count 122 = .ok (.bipush (-2), 2) := by decide +kernel
theorem dX6_count_124 : decode cX6_count 124 = .ok (.ireturn, 1) := by decide +kernel
set_option maxRecDepth 20000 in
theorem ggX6_takes_X6_layOut : GoodIn wsX6_takes wsX6_layOut := goodIn_r _ [5, 6, 7, 8, 31, 32, 33, 34, 35, 36, 37, 38, 39, 40, 41, 42, 43, 44, 45, 46, 47] (by decide +kernel) (by decide +kernel)
set_option maxRecDepth 20000 in
theorem gX6_takes_X6_layOut : GoodIn wsX6_takes (wsV RX6 104 RX6 yX6_layOut wsX6_layOut) := goodIn_app (goodIn_of _ (by decide +kernel)) ggX6_takes_X6_layOut
set_option maxRecDepth 20000 in
theorem ggX6_takes_X6_minutes : GoodIn wsX6_takes wsX6_minutes := goodIn_r _ [12, 6, 8, 7, 13, 14, 15, 4, 16, 17, 18, 19, 20, 21, 22, 23, 24, 25, 26, 27, 28, 29, 30, 31, 32, 33, 34, 35, 36, 37, 38, 39, 40, 41, 42, 43, 44, 45, 46, 47] (by decide +kernel) (by decide +kernel)
set_option maxRecDepth 20000 in
theorem gX6_takes_X6_minutes : GoodIn wsX6_takes (wsV RX6 68 RX6 yX6_minutes wsX6_minutes) := goodIn_app (goodIn_of _ (by decide +kernel)) ggX6_takes_X6_minutes
theorem dX6_takes_0 : decode cX6_takes 0 = .ok (.aload_n 0, 1) := by decide +kernel
theorem dX6_takes_1 : decode cX6_takes 1 = .ok (.iload_n 1, 1) := by decide +kernel
theorem dX6_takes_2 : decode cX6_takes 2 = .ok (.iconst 0, 1) := by decide +kernel
theorem dX6_takes_3 : decode cX6_takes 3 = .ok (.invokevirtual 104, 3) := by decide +kernel
theorem dX6_takes_6 : decode cX6_takes 6 = .ok (.istore_n 2, 1) := by decide +kernel
theorem dX6_takes_7 : decode cX6_takes 7 = .ok (.iload_n 2, 1) := by decide +kernel
theorem dX6_takes_8 : decode cX6_takes 8 = .ok (.ifCond .ge 7, 3) := by decide +kernel
theorem dX6_takes_11 : decode cX6_takes 11 = .ok (.iload_n 2, 1) := by decide +kernel
theorem dX6_takes_12 : decode cX6_takes 12 = .ok (.goto 7, 3) := by decide +kernel
theorem dX6_takes_15 : decode cX6_takes 15 = .ok (.aload_n 0, 1) := by decide +kernel
theorem dX6_takes_16 : decode cX6_takes 16 = .ok (.invokevirtual 68, 3) := by decide +kernel
theorem dX6_takes_19 : decode cX6_takes 19 = .ok (.ireturn, 1) := by decide +kernel
set_option maxRecDepth 20000 in
theorem ggX6_keepClock_X6_at : GoodIn wsX6_keepClock wsX6_at := goodIn_r _ [6] (by decide +kernel) (by decide +kernel)
set_option maxRecDepth 20000 in
theorem gX6_keepClock_X6_at : GoodIn wsX6_keepClock (va_wsS RX6 43 yX6_at wsX6_at) := goodIn_app (goodIn_of _ (by decide +kernel)) ggX6_keepClock_X6_at
theorem dX6_keepClock_0 : decode cX6_keepClock 0 = .ok (.iconst 0, 1) := by decide +kernel
theorem dX6_keepClock_1 : decode cX6_keepClock 1 = .ok (.istore_n 2, 1) := by decide +kernel
theorem dX6_keepClock_2 : decode cX6_keepClock 2 = .ok (.iload_n 2, 1) := by decide +kernel
theorem dX6_keepClock_3 : decode cX6_keepClock 3 = .ok (.bipush 8, 2) := by decide +kernel
theorem dX6_keepClock_5 : decode cX6_keepClock 5 = .ok (.if_icmp .ge 25, 3) := by decide +kernel
theorem dX6_keepClock_8 : decode cX6_keepClock 8 = .ok (.aload_n 0, 1) := by decide +kernel
theorem dX6_keepClock_9 : decode cX6_keepClock 9 = .ok (.getfield 13, 3) := by decide +kernel
theorem dX6_keepClock_12 : decode cX6_keepClock 12 = .ok (.iload_n 2, 1) := by decide +kernel
theorem dX6_keepClock_13 : decode cX6_keepClock 13 = .ok (.aload_n 0, 1) := by decide +kernel
theorem dX6_keepClock_14 : decode cX6_keepClock 14 = .ok (.getfield 7, 3) := by decide +kernel
theorem dX6_keepClock_17 : decode cX6_keepClock 17 = .ok (.iload_n 1, 1) := by decide +kernel
theorem dX6_keepClock_18 : decode cX6_keepClock 18 = .ok (.iload_n 2, 1) := by decide +kernel
theorem dX6_keepClock_19 : decode cX6_keepClock 19 = .ok (.invokestatic 43, 3) := by decide +kernel
theorem dX6_keepClock_22 : decode cX6_keepClock 22 = .ok (.iaload, 1) := by decide +kernel
theorem dX6_keepClock_23 : decode cX6_keepClock 23 = .ok (.iastore, 1) := by decide +kernel
theorem dX6_keepClock_24 : decode cX6_keepClock 24 = .ok (.iinc 2 1, 3) := by decide +kernel
theorem dX6_keepClock_27 : decode cX6_keepClock 27 = .ok (.goto (-25), 3) := by decide +kernel
theorem dX6_keepClock_30 : decode cX6_keepClock 30 = .ok (.return_, 1) := by decide +kernel
set_option maxRecDepth 20000 in
theorem ggX6_lasts_X6_isClock : GoodIn wsX6_lasts wsX6_isClock := goodIn_r _ [7, 1, 8, 9, 6, 10, 34, 35, 36, 37, 38, 39, 40, 41, 42, 43, 44, 45, 46, 47, 48, 49, 50] (by decide +kernel) (by decide +kernel)
set_option maxRecDepth 20000 in
theorem gX6_lasts_X6_isClock : GoodIn wsX6_lasts (wsV RX6 101 RX6 yX6_isClock wsX6_isClock) := goodIn_app (goodIn_of _ (by decide +kernel)) ggX6_lasts_X6_isClock
set_option maxRecDepth 20000 in
theorem ggX6_lasts_X6_keepClock : GoodIn wsX6_lasts wsX6_keepClock := goodIn_r _ [14, 2, 1, 15, 16, 6, 17, 34, 35, 36, 37, 38, 39, 40, 41, 42, 43, 44, 45, 46, 47, 48, 49, 50] (by decide +kernel) (by decide +kernel)
set_option maxRecDepth 20000 in
theorem gX6_lasts_X6_keepClock : GoodIn wsX6_lasts (wsV RX6 130 RX6 yX6_keepClock wsX6_keepClock) := goodIn_app (goodIn_of _ (by decide +kernel)) ggX6_lasts_X6_keepClock
set_option maxRecDepth 20000 in
theorem ggX6_lasts_X6_isOff : GoodIn wsX6_lasts wsX6_isOff := goodIn_r _ [21, 1, 15, 16, 6, 17, 22, 23, 24, 34, 35, 36, 37, 38, 39, 40, 41, 42, 43, 44, 45, 46, 47, 48, 49, 50] (by decide +kernel) (by decide +kernel)
set_option maxRecDepth 20000 in
theorem gX6_lasts_X6_isOff : GoodIn wsX6_lasts (wsV RX6 121 RX6 yX6_isOff wsX6_isOff) := goodIn_app (goodIn_of _ (by decide +kernel)) ggX6_lasts_X6_isOff
set_option maxRecDepth 20000 in
theorem ggX6_lasts_X6_day : GoodIn wsX6_lasts wsX6_day := goodIn_r _ [28, 1, 29, 15, 16, 6, 17, 30, 31, 32, 33, 34, 35, 36, 37, 38, 39, 40, 41, 42, 43, 44, 45, 46, 47, 48, 49, 50] (by decide +kernel) (by decide +kernel)
set_option maxRecDepth 20000 in
theorem gX6_lasts_X6_day : GoodIn wsX6_lasts (wsV RX6 76 RX6 yX6_day wsX6_day) := goodIn_app (goodIn_of _ (by decide +kernel)) ggX6_lasts_X6_day
set_option maxRecDepth 20000 in
theorem ggX6_lasts_X6_at : GoodIn wsX6_lasts wsX6_at := goodIn_r _ [17] (by decide +kernel) (by decide +kernel)
set_option maxRecDepth 20000 in
theorem gX6_lasts_X6_at : GoodIn wsX6_lasts (va_wsS RX6 43 yX6_at wsX6_at) := goodIn_app (goodIn_of _ (by decide +kernel)) ggX6_lasts_X6_at
theorem dX6_lasts_0 : decode cX6_lasts 0 = .ok (.aload_n 0, 1) := by decide +kernel
theorem dX6_lasts_1 : decode cX6_lasts 1 = .ok (.iload_n 1, 1) := by decide +kernel
theorem dX6_lasts_2 : decode cX6_lasts 2 = .ok (.invokevirtual 101, 3) := by decide +kernel
theorem dX6_lasts_5 : decode cX6_lasts 5 = .ok (.ifCond .ne 5, 3) := by decide +kernel
theorem dX6_lasts_8 : decode cX6_lasts 8 = .ok (.iconst (-1), 1) := by decide +kernel
theorem dX6_lasts_9 : decode cX6_lasts 9 = .ok (.ireturn, 1) := by decide +kernel
theorem dX6_lasts_10 : decode cX6_lasts 10 = .ok (.aload_n 0, 1) := by decide +kernel
theorem dX6_lasts_11 : decode cX6_lasts 11 = .ok (.iload_n 1, 1) := by decide +kernel
theorem dX6_lasts_12 : decode cX6_lasts 12 = .ok (.invokevirtual 130, 3) := by decide +kernel
theorem dX6_lasts_15 : decode cX6_lasts 15 = .ok (.iconst 0, 1) := by decide +kernel
theorem dX6_lasts_16 : decode cX6_lasts 16 = .ok (.istore_n 2, 1) := by decide +kernel
theorem dX6_lasts_17 : decode cX6_lasts 17 = .ok (.aload_n 0, 1) := by decide +kernel
theorem dX6_lasts_18 : decode cX6_lasts 18 = .ok (.iload_n 1, 1) := by decide +kernel
theorem dX6_lasts_19 : decode cX6_lasts 19 = .ok (.invokevirtual 121, 3) := by decide +kernel
theorem dX6_lasts_22 : decode cX6_lasts 22 = .ok (.ifCond .ne 14, 3) := by decide +kernel
theorem dX6_lasts_25 : decode cX6_lasts 25 = .ok (.aload_n 0, 1) := by decide +kernel
theorem dX6_lasts_26 : decode cX6_lasts 26 = .ok (.iload_n 1, 1) := by decide +kernel
theorem dX6_lasts_27 : decode cX6_lasts 27 = .ok (.invokevirtual 76, 3) := by decide +kernel
theorem dX6_lasts_30 : decode cX6_lasts 30 = .ok (.iinc 2 1, 3) := by decide +kernel
theorem dX6_lasts_33 : decode cX6_lasts 33 = .ok (.goto (-16), 3) := by decide +kernel
theorem dX6_lasts_36 : decode cX6_lasts 36 = .ok (.iconst 0, 1) := by decide +kernel
theorem dX6_lasts_37 : decode cX6_lasts 37 = .ok (.istore_n 3, 1) := by decide +kernel
theorem dX6_lasts_38 : decode cX6_lasts 38 = .ok (.iload_n 3, 1) := by decide +kernel
theorem dX6_lasts_39 : decode cX6_lasts 39 = .ok (.bipush 8, 2) := by decide +kernel
theorem dX6_lasts_41 : decode cX6_lasts 41 = .ok (.if_icmp .ge 25, 3) := by decide +kernel
theorem dX6_lasts_44 : decode cX6_lasts 44 = .ok (.aload_n 0, 1) := by decide +kernel
theorem dX6_lasts_45 : decode cX6_lasts 45 = .ok (.getfield 7, 3) := by decide +kernel
theorem dX6_lasts_48 : decode cX6_lasts 48 = .ok (.iload_n 1, 1) := by decide +kernel
theorem dX6_lasts_49 : decode cX6_lasts 49 = .ok (.iload_n 3, 1) := by decide +kernel
theorem dX6_lasts_50 : decode cX6_lasts 50 = .ok (.invokestatic 43, 3) := by decide +kernel
theorem dX6_lasts_53 : decode cX6_lasts 53 = .ok (.aload_n 0, 1) := by decide +kernel
theorem dX6_lasts_54 : decode cX6_lasts 54 = .ok (.getfield 13, 3) := by decide +kernel
theorem dX6_lasts_57 : decode cX6_lasts 57 = .ok (.iload_n 3, 1) := by decide +kernel
theorem dX6_lasts_58 : decode cX6_lasts 58 = .ok (.iaload, 1) := by decide +kernel
theorem dX6_lasts_59 : decode cX6_lasts 59 = .ok (.iastore, 1) := by decide +kernel
theorem dX6_lasts_60 : decode cX6_lasts 60 = .ok (.iinc 3 1, 3) := by decide +kernel
theorem dX6_lasts_63 : decode cX6_lasts 63 = .ok (.goto (-25), 3) := by decide +kernel
theorem dX6_lasts_66 : decode cX6_lasts 66 = .ok (.iload_n 2, 1) := by decide +kernel
theorem dX6_lasts_67 : decode cX6_lasts 67 = .ok (.ireturn, 1) := by decide +kernel
set_option maxRecDepth 20000 in
theorem ggX6_needs_X6_lasts : GoodIn wsX6_needs wsX6_lasts := goodIn_r _ [7, 1, 8, 9, 10, 11, 6, 12, 13, 14, 15, 16, 17, 18, 19, 20, 21, 22, 23, 24, 25, 26, 27, 28, 29, 30, 31, 32, 33, 34, 35, 36, 37, 38, 39, 40, 41, 42, 43, 44, 45, 46, 47, 48, 49, 50, 51, 52, 53, 54, 55] (by decide +kernel) (by decide +kernel)
set_option maxRecDepth 20000 in
theorem gX6_needs_X6_lasts : GoodIn wsX6_needs (wsV RX6 133 RX6 yX6_lasts wsX6_lasts) := goodIn_app (goodIn_of _ (by decide +kernel)) ggX6_needs_X6_lasts
theorem dX6_needs_0 : decode cX6_needs 0 = .ok (.iconst 0, 1) := by decide +kernel
theorem dX6_needs_1 : decode cX6_needs 1 = .ok (.istore_n 2, 1) := by decide +kernel
theorem dX6_needs_2 : decode cX6_needs 2 = .ok (.iload_n 2, 1) := by decide +kernel
theorem dX6_needs_3 : decode cX6_needs 3 = .ok (.aload_n 0, 1) := by decide +kernel
theorem dX6_needs_4 : decode cX6_needs 4 = .ok (.getfield 7, 3) := by decide +kernel
theorem dX6_needs_7 : decode cX6_needs 7 = .ok (.iconst 5, 1) := by decide +kernel
theorem dX6_needs_8 : decode cX6_needs 8 = .ok (.iaload, 1) := by decide +kernel
theorem dX6_needs_9 : decode cX6_needs 9 = .ok (.if_icmp .ge 20, 3) := by decide +kernel
theorem dX6_needs_12 : decode cX6_needs 12 = .ok (.aload_n 0, 1) := by decide +kernel
theorem dX6_needs_13 : decode cX6_needs 13 = .ok (.getfield 32, 3) := by decide +kernel
theorem dX6_needs_16 : decode cX6_needs 16 = .ok (.iload_n 2, 1) := by decide +kernel
theorem dX6_needs_17 : decode cX6_needs 17 = .ok (.aload_n 0, 1) := by decide +kernel
theorem dX6_needs_18 : decode cX6_needs 18 = .ok (.iload_n 2, 1) := by decide +kernel
theorem dX6_needs_19 : decode cX6_needs 19 = .ok (.invokevirtual 133, 3) := by decide +kernel
theorem dX6_needs_22 : decode cX6_needs 22 = .ok (.iastore, 1) := by decide +kernel
theorem dX6_needs_23 : decode cX6_needs 23 = .ok (.iinc 2 1, 3) := by decide +kernel
theorem dX6_needs_26 : decode cX6_needs 26 = .ok (.goto (-24), 3) := by decide +kernel
theorem dX6_needs_29 : decode cX6_needs 29 = .ok (.iconst 0, 1) := by decide +kernel
theorem dX6_needs_30 : decode cX6_needs 30 = .ok (.istore_n 2, 1) := by decide +kernel
theorem dX6_needs_31 : decode cX6_needs 31 = .ok (.iload_n 2, 1) := by decide +kernel
theorem dX6_needs_32 : decode cX6_needs 32 = .ok (.aload_n 0, 1) := by decide +kernel
theorem dX6_needs_33 : decode cX6_needs 33 = .ok (.getfield 7, 3) := by decide +kernel
theorem dX6_needs_36 : decode cX6_needs 36 = .ok (.iconst 5, 1) := by decide +kernel
theorem dX6_needs_37 : decode cX6_needs 37 = .ok (.iaload, 1) := by decide +kernel
theorem dX6_needs_38 : decode cX6_needs 38 = .ok (.if_icmp .ge 84, 3) := by decide +kernel
theorem dX6_needs_41 : decode cX6_needs 41 = .ok (.iconst 0, 1) := by decide +kernel
theorem dX6_needs_42 : decode cX6_needs 42 = .ok (.istore_n 3, 1) := by decide +kernel
theorem dX6_needs_43 : decode cX6_needs 43 = .ok (.iconst 0, 1) := by decide +kernel
theorem dX6_needs_44 : decode cX6_needs 44 = .ok (.istore 4, 2) := by decide +kernel
theorem dX6_needs_46 : decode cX6_needs 46 = .ok (.iload 4, 2) := by decide +kernel
theorem dX6_needs_48 : decode cX6_needs 48 = .ok (.aload_n 0, 1) := by decide +kernel
theorem dX6_needs_49 : decode cX6_needs 49 = .ok (.getfield 7, 3) := by decide +kernel
theorem dX6_needs_52 : decode cX6_needs 52 = .ok (.iconst 5, 1) := by decide +kernel
theorem dX6_needs_53 : decode cX6_needs 53 = .ok (.iaload, 1) := by decide +kernel
theorem dX6_needs_54 : decode cX6_needs 54 = .ok (.if_icmp .ge 55, 3) := by decide +kernel
theorem dX6_needs_57 : decode cX6_needs 57 = .ok (.iload_n 3, 1) := by decide +kernel
theorem dX6_needs_58 : decode cX6_needs 58 = .ok (.aload_n 0, 1) := by decide +kernel
theorem dX6_needs_59 : decode cX6_needs 59 = .ok (.getfield 32, 3) := by decide +kernel
theorem dX6_needs_62 : decode cX6_needs 62 = .ok (.iload 4, 2) := by decide +kernel
theorem dX6_needs_64 : decode cX6_needs 64 = .ok (.iaload, 1) := by decide +kernel
theorem dX6_needs_65 : decode cX6_needs 65 = .ok (.aload_n 0, 1) := by decide +kernel
theorem dX6_needs_66 : decode cX6_needs 66 = .ok (.getfield 32, 3) := by decide +kernel
theorem dX6_needs_69 : decode cX6_needs 69 = .ok (.iload_n 2, 1) := by decide +kernel
theorem dX6_needs_70 : decode cX6_needs 70 = .ok (.iaload, 1) := by decide +kernel
theorem dX6_needs_71 : decode cX6_needs 71 = .ok (.if_icmp .lt 25, 3) := by decide +kernel
theorem dX6_needs_74 : decode cX6_needs 74 = .ok (.aload_n 0, 1) := by decide +kernel
theorem dX6_needs_75 : decode cX6_needs 75 = .ok (.getfield 32, 3) := by decide +kernel
theorem dX6_needs_78 : decode cX6_needs 78 = .ok (.iload 4, 2) := by decide +kernel
theorem dX6_needs_80 : decode cX6_needs 80 = .ok (.iaload, 1) := by decide +kernel
theorem dX6_needs_81 : decode cX6_needs 81 = .ok (.aload_n 0, 1) := by decide +kernel
theorem dX6_needs_82 : decode cX6_needs 82 = .ok (.getfield 32, 3) := by decide +kernel
theorem dX6_needs_85 : decode cX6_needs 85 = .ok (.iload_n 2, 1) := by decide +kernel
theorem dX6_needs_86 : decode cX6_needs 86 = .ok (.iaload, 1) := by decide +kernel
theorem dX6_needs_87 : decode cX6_needs 87 = .ok (.if_icmp .ne 13, 3) := by decide +kernel
theorem dX6_needs_90 : decode cX6_needs 90 = .ok (.iload 4, 2) := by decide +kernel
theorem dX6_needs_92 : decode cX6_needs 92 = .ok (.iload_n 2, 1) := by decide +kernel
theorem dX6_needs_93 : decode cX6_needs 93 = .ok (.if_icmp .ge 7, 3) := by decide +kernel
theorem dX6_needs_96 : decode cX6_needs 96 = .ok (.iconst 1, 1) := by decide +kernel
theorem dX6_needs_97 : decode cX6_needs 97 = .ok (.goto 4, 3) := by decide +kernel
theorem dX6_needs_100 : decode cX6_needs 100 = .ok (.iconst 0, 1) := by decide +kernel
theorem dX6_needs_101 : decode cX6_needs 101 = .ok (.iadd, 1) := by decide +kernel
theorem dX6_needs_102 : decode cX6_needs 102 = .ok (.istore_n 3, 1) := by decide +kernel
theorem dX6_needs_103 : decode cX6_needs 103 = .ok (.iinc 4 1, 3) := by decide +kernel
theorem dX6_needs_106 : decode cX6_needs 106 = .ok (.goto (-60), 3) := by decide +kernel
theorem dX6_needs_109 : decode cX6_needs 109 = .ok (.iload_n 3, 1) := by decide +kernel
theorem dX6_needs_110 : decode cX6_needs 110 = .ok (.iload_n 1, 1) := by decide +kernel
theorem dX6_needs_111 : decode cX6_needs 111 = .ok (.if_icmp .ne 5, 3) := by decide +kernel
theorem dX6_needs_114 : decode cX6_needs 114 = .ok (.iload_n 2, 1) := by decide +kernel
theorem dX6_needs_115 : decode cX6_needs 115 = .ok (.ireturn, 1) := by decide +kernel
theorem dX6_needs_116 : decode cX6_needs 116 = .ok (.iinc 2 1, 3) := by decide +kernel
theorem dX6_needs_119 : decode cX6_needs 119 = .ok (.goto (-88), 3) := by decide +kernel
theorem dX6_needs_122 : decode cX6_needs 122 = .ok (.iconst (-1), 1) := by decide +kernel
theorem dX6_needs_123 : decode cX6_needs 123 = .ok (.ireturn, 1) := by decide +kernel
set_option maxRecDepth 20000 in
theorem ggX6_ladderFor_X6_canWind : GoodIn wsX6_ladderFor wsX6_canWind := goodIn_r _ [6, 1, 7, 8, 5, 9, 10, 11, 12, 13, 14, 15, 16, 17, 18, 19, 20, 21, 22, 23, 24, 25, 26, 27, 28, 29, 30] (by decide +kernel) (by decide +kernel)
set_option maxRecDepth 20000 in
theorem gX6_ladderFor_X6_canWind : GoodIn wsX6_ladderFor (wsV RX6 64 RX6 yX6_canWind wsX6_canWind) := goodIn_app (goodIn_of _ (by decide +kernel)) ggX6_ladderFor_X6_canWind
set_option maxRecDepth 20000 in
theorem ggX6_ladderFor_X6_at : GoodIn wsX6_ladderFor wsX6_at := goodIn_r _ [9] (by decide +kernel) (by decide +kernel)
set_option maxRecDepth 20000 in
theorem gX6_ladderFor_X6_at : GoodIn wsX6_ladderFor (va_wsS RX6 43 yX6_at wsX6_at) := goodIn_app (goodIn_of _ (by decide +kernel)) ggX6_ladderFor_X6_at
theorem dX6_ladderFor_0 : decode cX6_ladderFor 0 = .ok (.aload_n 0, 1) := by decide +kernel
theorem dX6_ladderFor_1 : decode cX6_ladderFor 1 = .ok (.getfield 7, 3) := by decide +kernel
theorem dX6_ladderFor_4 : decode cX6_ladderFor 4 = .ok (.bipush 6, 2) := by decide +kernel
theorem dX6_ladderFor_6 : decode cX6_ladderFor 6 = .ok (.iaload, 1) := by decide +kernel
theorem dX6_ladderFor_7 : decode cX6_ladderFor 7 = .ok (.iconst 4, 1) := by decide +kernel
theorem dX6_ladderFor_8 : decode cX6_ladderFor 8 = .ok (.if_icmp .ne 6, 3) := by decide +kernel
theorem dX6_ladderFor_11 : decode cX6_ladderFor 11 = .ok (.bipush (-4), 2) := by decide +kernel
theorem dX6_ladderFor_13 : decode cX6_ladderFor 13 = .ok (.ireturn, 1) := by decide +kernel
theorem dX6_ladderFor_14 : decode cX6_ladderFor 14 = .ok (.bipush (-6), 2) := by decide +kernel
theorem dX6_ladderFor_16 : decode cX6_ladderFor 16 = .ok (.istore_n 1, 1) := by decide +kernel
theorem dX6_ladderFor_17 : decode cX6_ladderFor 17 = .ok (.iconst 0, 1) := by decide +kernel
theorem dX6_ladderFor_18 : decode cX6_ladderFor 18 = .ok (.istore_n 2, 1) := by decide +kernel
theorem dX6_ladderFor_19 : decode cX6_ladderFor 19 = .ok (.iload_n 2, 1) := by decide +kernel
theorem dX6_ladderFor_20 : decode cX6_ladderFor 20 = .ok (.aload_n 0, 1) := by decide +kernel
theorem dX6_ladderFor_21 : decode cX6_ladderFor 21 = .ok (.getfield 7, 3) := by decide +kernel
theorem dX6_ladderFor_24 : decode cX6_ladderFor 24 = .ok (.iconst 5, 1) := by decide +kernel
theorem dX6_ladderFor_25 : decode cX6_ladderFor 25 = .ok (.iaload, 1) := by decide +kernel
theorem dX6_ladderFor_26 : decode cX6_ladderFor 26 = .ok (.if_icmp .ge 46, 3) := by decide +kernel
theorem dX6_ladderFor_29 : decode cX6_ladderFor 29 = .ok (.aload_n 0, 1) := by decide +kernel
theorem dX6_ladderFor_30 : decode cX6_ladderFor 30 = .ok (.iload_n 2, 1) := by decide +kernel
theorem dX6_ladderFor_31 : decode cX6_ladderFor 31 = .ok (.invokevirtual 64, 3) := by decide +kernel
theorem dX6_ladderFor_34 : decode cX6_ladderFor 34 = .ok (.ifCond .ne 30, 3) := by decide +kernel
theorem dX6_ladderFor_37 : decode cX6_ladderFor 37 = .ok (.aload_n 0, 1) := by decide +kernel
theorem dX6_ladderFor_38 : decode cX6_ladderFor 38 = .ok (.getfield 7, 3) := by decide +kernel
theorem dX6_ladderFor_41 : decode cX6_ladderFor 41 = .ok (.iload_n 2, 1) := by decide +kernel
theorem dX6_ladderFor_42 : decode cX6_ladderFor 42 = .ok (.iconst 1, 1) := by decide +kernel
theorem dX6_ladderFor_43 : decode cX6_ladderFor 43 = .ok (.invokestatic 43, 3) := by decide +kernel
theorem dX6_ladderFor_46 : decode cX6_ladderFor 46 = .ok (.iaload, 1) := by decide +kernel
theorem dX6_ladderFor_47 : decode cX6_ladderFor 47 = .ok (.iload_n 1, 1) := by decide +kernel
theorem dX6_ladderFor_48 : decode cX6_ladderFor 48 = .ok (.if_icmp .le 16, 3) := by decide +kernel
theorem dX6_ladderFor_51 : decode cX6_ladderFor 51 = .ok (.aload_n 0, 1) := by decide +kernel
theorem dX6_ladderFor_52 : decode cX6_ladderFor 52 = .ok (.getfield 7, 3) := by decide +kernel
theorem dX6_ladderFor_55 : decode cX6_ladderFor 55 = .ok (.iload_n 2, 1) := by decide +kernel
theorem dX6_ladderFor_56 : decode cX6_ladderFor 56 = .ok (.iconst 1, 1) := by decide +kernel
theorem dX6_ladderFor_57 : decode cX6_ladderFor 57 = .ok (.invokestatic 43, 3) := by decide +kernel
theorem dX6_ladderFor_60 : decode cX6_ladderFor 60 = .ok (.iaload, 1) := by decide +kernel
theorem dX6_ladderFor_61 : decode cX6_ladderFor 61 = .ok (.goto 4, 3) := by decide +kernel
theorem dX6_ladderFor_64 : decode cX6_ladderFor 64 = .ok (.iload_n 1, 1) := by decide +kernel
theorem dX6_ladderFor_65 : decode cX6_ladderFor 65 = .ok (.istore_n 1, 1) := by decide +kernel
theorem dX6_ladderFor_66 : decode cX6_ladderFor 66 = .ok (.iinc 2 1, 3) := by decide +kernel
theorem dX6_ladderFor_69 : decode cX6_ladderFor 69 = .ok (.goto (-50), 3) := by decide +kernel
theorem dX6_ladderFor_72 : decode cX6_ladderFor 72 = .ok (.iload_n 1, 1) := by decide +kernel
theorem dX6_ladderFor_73 : decode cX6_ladderFor 73 = .ok (.ireturn, 1) := by decide +kernel
set_option maxRecDepth 20000 in
theorem ggX6_wayRound_X6_layOut : GoodIn wsX6_wayRound wsX6_layOut := goodIn_r _ [5, 6, 7, 8, 31, 32, 33, 34, 35, 36, 37, 38, 39, 40, 41, 42, 43, 44, 45, 46, 47] (by decide +kernel) (by decide +kernel)
set_option maxRecDepth 20000 in
theorem gX6_wayRound_X6_layOut : GoodIn wsX6_wayRound (wsV RX6 104 RX6 yX6_layOut wsX6_layOut) := goodIn_app (goodIn_of _ (by decide +kernel)) ggX6_wayRound_X6_layOut
set_option maxRecDepth 20000 in
theorem ggX6_wayRound_X6_minutes : GoodIn wsX6_wayRound wsX6_minutes := goodIn_r _ [12, 6, 8, 7, 13, 14, 15, 4, 16, 17, 18, 19, 20, 21, 22, 23, 24, 25, 26, 27, 28, 29, 30, 31, 32, 33, 34, 35, 36, 37, 38, 39, 40, 41, 42, 43, 44, 45, 46, 47] (by decide +kernel) (by decide +kernel)
set_option maxRecDepth 20000 in
theorem gX6_wayRound_X6_minutes : GoodIn wsX6_wayRound (wsV RX6 68 RX6 yX6_minutes wsX6_minutes) := goodIn_app (goodIn_of _ (by decide +kernel)) ggX6_wayRound_X6_minutes
theorem dX6_wayRound_0 : decode cX6_wayRound 0 = .ok (.aload_n 0, 1) := by decide +kernel
theorem dX6_wayRound_1 : decode cX6_wayRound 1 = .ok (.iload_n 1, 1) := by decide +kernel
theorem dX6_wayRound_2 : decode cX6_wayRound 2 = .ok (.iconst 0, 1) := by decide +kernel
theorem dX6_wayRound_3 : decode cX6_wayRound 3 = .ok (.invokevirtual 104, 3) := by decide +kernel
theorem dX6_wayRound_6 : decode cX6_wayRound 6 = .ok (.istore_n 2, 1) := by decide +kernel
theorem dX6_wayRound_7 : decode cX6_wayRound 7 = .ok (.iload_n 2, 1) := by decide +kernel
theorem dX6_wayRound_8 : decode cX6_wayRound 8 = .ok (.ifCond .ge 5, 3) := by decide +kernel
theorem dX6_wayRound_11 : decode cX6_wayRound 11 = .ok (.iload_n 2, 1) := by decide +kernel
theorem dX6_wayRound_12 : decode cX6_wayRound 12 = .ok (.ireturn, 1) := by decide +kernel
theorem dX6_wayRound_13 : decode cX6_wayRound 13 = .ok (.aload_n 0, 1) := by decide +kernel
theorem dX6_wayRound_14 : decode cX6_wayRound 14 = .ok (.invokevirtual 68, 3) := by decide +kernel
theorem dX6_wayRound_17 : decode cX6_wayRound 17 = .ok (.istore_n 3, 1) := by decide +kernel
theorem dX6_wayRound_18 : decode cX6_wayRound 18 = .ok (.aload_n 0, 1) := by decide +kernel
theorem dX6_wayRound_19 : decode cX6_wayRound 19 = .ok (.iload_n 1, 1) := by decide +kernel
theorem dX6_wayRound_20 : decode cX6_wayRound 20 = .ok (.iconst 1, 1) := by decide +kernel
theorem dX6_wayRound_21 : decode cX6_wayRound 21 = .ok (.invokevirtual 104, 3) := by decide +kernel
theorem dX6_wayRound_24 : decode cX6_wayRound 24 = .ok (.istore 4, 2) := by decide +kernel
theorem dX6_wayRound_26 : decode cX6_wayRound 26 = .ok (.aload_n 0, 1) := by decide +kernel
theorem dX6_wayRound_27 : decode cX6_wayRound 27 = .ok (.invokevirtual 68, 3) := by decide +kernel
theorem dX6_wayRound_30 : decode cX6_wayRound 30 = .ok (.istore 5, 2) := by decide +kernel
theorem dX6_wayRound_32 : decode cX6_wayRound 32 = .ok (.iload_n 3, 1) := by decide +kernel
theorem dX6_wayRound_33 : decode cX6_wayRound 33 = .ok (.iload 5, 2) := by decide +kernel
theorem dX6_wayRound_35 : decode cX6_wayRound 35 = .ok (.if_icmp .ge 7, 3) := by decide +kernel
theorem dX6_wayRound_38 : decode cX6_wayRound 38 = .ok (.iconst 0, 1) := by decide +kernel
theorem dX6_wayRound_39 : decode cX6_wayRound 39 = .ok (.goto 14, 3) := by decide +kernel
theorem dX6_wayRound_42 : decode cX6_wayRound 42 = .ok (.iload 5, 2) := by decide +kernel
theorem dX6_wayRound_44 : decode cX6_wayRound 44 = .ok (.iload_n 3, 1) := by decide +kernel
theorem dX6_wayRound_45 : decode cX6_wayRound 45 = .ok (.if_icmp .ge 7, 3) := by decide +kernel
theorem dX6_wayRound_48 : decode cX6_wayRound 48 = .ok (.iconst 1, 1) := by decide +kernel
theorem dX6_wayRound_49 : decode cX6_wayRound 49 = .ok (.goto 4, 3) := by decide +kernel
theorem dX6_wayRound_52 : decode cX6_wayRound 52 = .ok (.iconst 2, 1) := by decide +kernel
theorem dX6_wayRound_53 : decode cX6_wayRound 53 = .ok (.ireturn, 1) := by decide +kernel
set_option maxRecDepth 20000 in
theorem ggX6_put_X6_in : GoodIn wsX6_put wsX6_in := goodIn_r _ [7] (by decide +kernel) (by decide +kernel)
set_option maxRecDepth 20000 in
theorem gX6_put_X6_in : GoodIn wsX6_put (va_wsS RX6 35 yX6_in wsX6_in) := goodIn_app (goodIn_of _ (by decide +kernel)) ggX6_put_X6_in
theorem dX6_put_0 : decode cX6_put 0 = .ok (.iconst 0, 1) := by decide +kernel
theorem dX6_put_1 : decode cX6_put 1 = .ok (.istore_n 3, 1) := by decide +kernel
theorem dX6_put_2 : decode cX6_put 2 = .ok (.iconst 0, 1) := by decide +kernel
theorem dX6_put_3 : decode cX6_put 3 = .ok (.istore 4, 2) := by decide +kernel
theorem dX6_put_5 : decode cX6_put 5 = .ok (.iconst 0, 1) := by decide +kernel
theorem dX6_put_6 : decode cX6_put 6 = .ok (.istore 5, 2) := by decide +kernel
theorem dX6_put_8 : decode cX6_put 8 = .ok (.iload 5, 2) := by decide +kernel
theorem dX6_put_10 : decode cX6_put 10 = .ok (.bipush 8, 2) := by decide +kernel
theorem dX6_put_12 : decode cX6_put 12 = .ok (.if_icmp .ge 89, 3) := by decide +kernel
theorem dX6_put_15 : decode cX6_put 15 = .ok (.lload_n 1, 1) := by decide +kernel
theorem dX6_put_16 : decode cX6_put 16 = .ok (.bipush 8, 2) := by decide +kernel
theorem dX6_put_18 : decode cX6_put 18 = .ok (.iload 5, 2) := by decide +kernel
theorem dX6_put_20 : decode cX6_put 20 = .ok (.imul, 1) := by decide +kernel
theorem dX6_put_21 : decode cX6_put 21 = .ok (.lushr, 1) := by decide +kernel
theorem dX6_put_22 : decode cX6_put 22 = .ok (.ldc2_w 136, 3) := by decide +kernel
theorem dX6_put_25 : decode cX6_put 25 = .ok (.land, 1) := by decide +kernel
theorem dX6_put_26 : decode cX6_put 26 = .ok (.l2i, 1) := by decide +kernel
theorem dX6_put_27 : decode cX6_put 27 = .ok (.istore 6, 2) := by decide +kernel
theorem dX6_put_29 : decode cX6_put 29 = .ok (.iload 5, 2) := by decide +kernel
theorem dX6_put_31 : decode cX6_put 31 = .ok (.ifCond .le 19, 3) := by decide +kernel
theorem dX6_put_34 : decode cX6_put 34 = .ok (.lload_n 1, 1) := by decide +kernel
theorem dX6_put_35 : decode cX6_put 35 = .ok (.bipush 8, 2) := by decide +kernel
theorem dX6_put_37 : decode cX6_put 37 = .ok (.iload 5, 2) := by decide +kernel
theorem dX6_put_39 : decode cX6_put 39 = .ok (.imul, 1) := by decide +kernel
theorem dX6_put_40 : decode cX6_put 40 = .ok (.lushr, 1) := by decide +kernel
theorem dX6_put_41 : decode cX6_put 41 = .ok (.lconst 0, 1) := by decide +kernel
theorem dX6_put_42 : decode cX6_put 42 = .ok (.lcmp, 1) := by decide +kernel
theorem dX6_put_43 : decode cX6_put 43 = .ok (.ifCond .ne 7, 3) := by decide +kernel
theorem dX6_put_46 : decode cX6_put 46 = .ok (.iconst 1, 1) := by decide +kernel
theorem dX6_put_47 : decode cX6_put 47 = .ok (.goto 4, 3) := by decide +kernel
theorem dX6_put_50 : decode cX6_put 50 = .ok (.iconst 0, 1) := by decide +kernel
theorem dX6_put_51 : decode cX6_put 51 = .ok (.istore 7, 2) := by decide +kernel
theorem dX6_put_53 : decode cX6_put 53 = .ok (.iload 4, 2) := by decide +kernel
theorem dX6_put_55 : decode cX6_put 55 = .ok (.ifCond .ne 20, 3) := by decide +kernel
theorem dX6_put_58 : decode cX6_put 58 = .ok (.iload 7, 2) := by decide +kernel
theorem dX6_put_60 : decode cX6_put 60 = .ok (.ifCond .ne 19, 3) := by decide +kernel
theorem dX6_put_63 : decode cX6_put 63 = .ok (.iload 6, 2) := by decide +kernel
theorem dX6_put_65 : decode cX6_put 65 = .ok (.bipush 33, 2) := by decide +kernel
theorem dX6_put_67 : decode cX6_put 67 = .ok (.bipush 126, 2) := by decide +kernel
theorem dX6_put_69 : decode cX6_put 69 = .ok (.invokestatic 35, 3) := by decide +kernel
theorem dX6_put_72 : decode cX6_put 72 = .ok (.ifCond .ne 7, 3) := by decide +kernel
theorem dX6_put_75 : decode cX6_put 75 = .ok (.iconst 1, 1) := by decide +kernel
theorem dX6_put_76 : decode cX6_put 76 = .ok (.goto 4, 3) := by decide +kernel
theorem dX6_put_79 : decode cX6_put 79 = .ok (.iconst 0, 1) := by decide +kernel
theorem dX6_put_80 : decode cX6_put 80 = .ok (.istore 4, 2) := by decide +kernel
theorem dX6_put_82 : decode cX6_put 82 = .ok (.iload_n 3, 1) := by decide +kernel
theorem dX6_put_83 : decode cX6_put 83 = .ok (.iload 7, 2) := by decide +kernel
theorem dX6_put_85 : decode cX6_put 85 = .ok (.ifCond .eq 7, 3) := by decide +kernel
theorem dX6_put_88 : decode cX6_put 88 = .ok (.iconst 0, 1) := by decide +kernel
theorem dX6_put_89 : decode cX6_put 89 = .ok (.goto 4, 3) := by decide +kernel
theorem dX6_put_92 : decode cX6_put 92 = .ok (.iconst 1, 1) := by decide +kernel
theorem dX6_put_93 : decode cX6_put 93 = .ok (.iadd, 1) := by decide +kernel
theorem dX6_put_94 : decode cX6_put 94 = .ok (.istore_n 3, 1) := by decide +kernel
theorem dX6_put_95 : decode cX6_put 95 = .ok (.iinc 5 1, 3) := by decide +kernel
theorem dX6_put_98 : decode cX6_put 98 = .ok (.goto (-90), 3) := by decide +kernel
theorem dX6_put_101 : decode cX6_put 101 = .ok (.iload 4, 2) := by decide +kernel
theorem dX6_put_103 : decode cX6_put 103 = .ok (.ifCond .eq 6, 3) := by decide +kernel
theorem dX6_put_106 : decode cX6_put 106 = .ok (.bipush (-2), 2) := by decide +kernel
theorem dX6_put_108 : decode cX6_put 108 = .ok (.ireturn, 1) := by decide +kernel
theorem dX6_put_109 : decode cX6_put 109 = .ok (.aload_n 0, 1) := by decide +kernel
theorem dX6_put_110 : decode cX6_put 110 = .ok (.getfield 127, 3) := by decide +kernel
theorem dX6_put_113 : decode cX6_put 113 = .ok (.iload_n 3, 1) := by decide +kernel
theorem dX6_put_114 : decode cX6_put 114 = .ok (.iadd, 1) := by decide +kernel
theorem dX6_put_115 : decode cX6_put 115 = .ok (.bipush 80, 2) := by decide +kernel
theorem dX6_put_117 : decode cX6_put 117 = .ok (.if_icmp .le 6, 3) := by decide +kernel
theorem dX6_put_120 : decode cX6_put 120 = .ok (.bipush (-4), 2) := by decide +kernel
theorem dX6_put_122 : decode cX6_put 122 = .ok (.ireturn, 1) := by decide +kernel
theorem dX6_put_123 : decode cX6_put 123 = .ok (.iconst 0, 1) := by decide +kernel
theorem dX6_put_124 : decode cX6_put 124 = .ok (.istore 5, 2) := by decide +kernel
theorem dX6_put_126 : decode cX6_put 126 = .ok (.iload 5, 2) := by decide +kernel
theorem dX6_put_128 : decode cX6_put 128 = .ok (.iload_n 3, 1) := by decide +kernel
theorem dX6_put_129 : decode cX6_put 129 = .ok (.if_icmp .ge 37, 3) := by decide +kernel
theorem dX6_put_132 : decode cX6_put 132 = .ok (.aload_n 0, 1) := by decide +kernel
theorem dX6_put_133 : decode cX6_put 133 = .ok (.getfield 26, 3) := by decide +kernel
theorem dX6_put_136 : decode cX6_put 136 = .ok (.aload_n 0, 1) := by decide +kernel
theorem dX6_put_137 : decode cX6_put 137 = .ok (.getfield 127, 3) := by decide +kernel
theorem dX6_put_140 : decode cX6_put 140 = .ok (.iload_n 3, 1) := by decide +kernel
theorem dX6_put_141 : decode cX6_put 141 = .ok (.iadd, 1) := by decide +kernel
theorem dX6_put_142 : decode cX6_put 142 = .ok (.iconst 1, 1) := by decide +kernel
theorem dX6_put_143 : decode cX6_put 143 = .ok (.isub, 1) := by decide +kernel
theorem dX6_put_144 : decode cX6_put 144 = .ok (.iload 5, 2) := by decide +kernel
theorem dX6_put_146 : decode cX6_put 146 = .ok (.isub, 1) := by decide +kernel
theorem dX6_put_147 : decode cX6_put 147 = .ok (.lload_n 1, 1) := by decide +kernel
theorem dX6_put_148 : decode cX6_put 148 = .ok (.bipush 8, 2) := by decide +kernel
theorem dX6_put_150 : decode cX6_put 150 = .ok (.iload 5, 2) := by decide +kernel
theorem dX6_put_152 : decode cX6_put 152 = .ok (.imul, 1) := by decide +kernel
theorem dX6_put_153 : decode cX6_put 153 = .ok (.lushr, 1) := by decide +kernel
theorem dX6_put_154 : decode cX6_put 154 = .ok (.ldc2_w 136, 3) := by decide +kernel
theorem dX6_put_157 : decode cX6_put 157 = .ok (.land, 1) := by decide +kernel
theorem dX6_put_158 : decode cX6_put 158 = .ok (.l2i, 1) := by decide +kernel
theorem dX6_put_159 : decode cX6_put 159 = .ok (.iastore, 1) := by decide +kernel
theorem dX6_put_160 : decode cX6_put 160 = .ok (.iinc 5 1, 3) := by decide +kernel
theorem dX6_put_163 : decode cX6_put 163 = .ok (.goto (-37), 3) := by decide +kernel
theorem dX6_put_166 : decode cX6_put 166 = .ok (.aload_n 0, 1) := by decide +kernel
theorem dX6_put_167 : decode cX6_put 167 = .ok (.dup, 1) := by decide +kernel
theorem dX6_put_168 : decode cX6_put 168 = .ok (.getfield 127, 3) := by decide +kernel
theorem dX6_put_171 : decode cX6_put 171 = .ok (.iload_n 3, 1) := by decide +kernel
theorem dX6_put_172 : decode cX6_put 172 = .ok (.iadd, 1) := by decide +kernel
theorem dX6_put_173 : decode cX6_put 173 = .ok (.putfield 127, 3) := by decide +kernel
theorem dX6_put_176 : decode cX6_put 176 = .ok (.aload_n 0, 1) := by decide +kernel
theorem dX6_put_177 : decode cX6_put 177 = .ok (.getfield 127, 3) := by decide +kernel
theorem dX6_put_180 : decode cX6_put 180 = .ok (.ireturn, 1) := by decide +kernel
theorem dX6_wipe_0 : decode cX6_wipe 0 = .ok (.aload_n 0, 1) := by decide +kernel
theorem dX6_wipe_1 : decode cX6_wipe 1 = .ok (.getfield 127, 3) := by decide +kernel
theorem dX6_wipe_4 : decode cX6_wipe 4 = .ok (.istore_n 1, 1) := by decide +kernel
theorem dX6_wipe_5 : decode cX6_wipe 5 = .ok (.aload_n 0, 1) := by decide +kernel
theorem dX6_wipe_6 : decode cX6_wipe 6 = .ok (.iconst 0, 1) := by decide +kernel
theorem dX6_wipe_7 : decode cX6_wipe 7 = .ok (.putfield 127, 3) := by decide +kernel
theorem dX6_wipe_10 : decode cX6_wipe 10 = .ok (.iload_n 1, 1) := by decide +kernel
theorem dX6_wipe_11 : decode cX6_wipe 11 = .ok (.ireturn, 1) := by decide +kernel
set_option maxRecDepth 20000 in
theorem ggX6_sign_X6_in : GoodIn wsX6_sign wsX6_in := goodIn_r _ [8] (by decide +kernel) (by decide +kernel)
set_option maxRecDepth 20000 in
theorem gX6_sign_X6_in : GoodIn wsX6_sign (va_wsS RX6 35 yX6_in wsX6_in) := goodIn_app (goodIn_of _ (by decide +kernel)) ggX6_sign_X6_in
theorem dX6_sign_0 : decode cX6_sign 0 = .ok (.aload_n 0, 1) := by decide +kernel
theorem dX6_sign_1 : decode cX6_sign 1 = .ok (.getfield 138, 3) := by decide +kernel
theorem dX6_sign_4 : decode cX6_sign 4 = .ok (.aload_n 0, 1) := by decide +kernel
theorem dX6_sign_5 : decode cX6_sign 5 = .ok (.getfield 127, 3) := by decide +kernel
theorem dX6_sign_8 : decode cX6_sign 8 = .ok (.if_icmp .ge 15, 3) := by decide +kernel
theorem dX6_sign_11 : decode cX6_sign 11 = .ok (.aload_n 0, 1) := by decide +kernel
theorem dX6_sign_12 : decode cX6_sign 12 = .ok (.getfield 26, 3) := by decide +kernel
theorem dX6_sign_15 : decode cX6_sign 15 = .ok (.aload_n 0, 1) := by decide +kernel
theorem dX6_sign_16 : decode cX6_sign 16 = .ok (.getfield 138, 3) := by decide +kernel
theorem dX6_sign_19 : decode cX6_sign 19 = .ok (.iaload, 1) := by decide +kernel
theorem dX6_sign_20 : decode cX6_sign 20 = .ok (.goto 4, 3) := by decide +kernel
theorem dX6_sign_23 : decode cX6_sign 23 = .ok (.iconst 0, 1) := by decide +kernel
theorem dX6_sign_24 : decode cX6_sign 24 = .ok (.istore_n 3, 1) := by decide +kernel
theorem dX6_sign_25 : decode cX6_sign 25 = .ok (.aload_n 0, 1) := by decide +kernel
theorem dX6_sign_26 : decode cX6_sign 26 = .ok (.aload_n 0, 1) := by decide +kernel
theorem dX6_sign_27 : decode cX6_sign 27 = .ok (.getfield 141, 3) := by decide +kernel
theorem dX6_sign_30 : decode cX6_sign 30 = .ok (.ifCond .ne 12, 3) := by decide +kernel
theorem dX6_sign_33 : decode cX6_sign 33 = .ok (.iload_n 3, 1) := by decide +kernel
theorem dX6_sign_34 : decode cX6_sign 34 = .ok (.iload_n 1, 1) := by decide +kernel
theorem dX6_sign_35 : decode cX6_sign 35 = .ok (.iload_n 2, 1) := by decide +kernel
theorem dX6_sign_36 : decode cX6_sign 36 = .ok (.invokestatic 35, 3) := by decide +kernel
theorem dX6_sign_39 : decode cX6_sign 39 = .ok (.ifCond .ne 7, 3) := by decide +kernel
theorem dX6_sign_42 : decode cX6_sign 42 = .ok (.iconst 1, 1) := by decide +kernel
theorem dX6_sign_43 : decode cX6_sign 43 = .ok (.goto 4, 3) := by decide +kernel
theorem dX6_sign_46 : decode cX6_sign 46 = .ok (.iconst 0, 1) := by decide +kernel
theorem dX6_sign_47 : decode cX6_sign 47 = .ok (.putfield 141, 3) := by decide +kernel
theorem dX6_sign_50 : decode cX6_sign 50 = .ok (.aload_n 0, 1) := by decide +kernel
theorem dX6_sign_51 : decode cX6_sign 51 = .ok (.dup, 1) := by decide +kernel
theorem dX6_sign_52 : decode cX6_sign 52 = .ok (.getfield 138, 3) := by decide +kernel
theorem dX6_sign_55 : decode cX6_sign 55 = .ok (.aload_n 0, 1) := by decide +kernel
theorem dX6_sign_56 : decode cX6_sign 56 = .ok (.getfield 141, 3) := by decide +kernel
theorem dX6_sign_59 : decode cX6_sign 59 = .ok (.ifCond .eq 7, 3) := by decide +kernel
theorem dX6_sign_62 : decode cX6_sign 62 = .ok (.iconst 0, 1) := by decide +kernel
theorem dX6_sign_63 : decode cX6_sign 63 = .ok (.goto 4, 3) := by decide +kernel
theorem dX6_sign_66 : decode cX6_sign 66 = .ok (.iconst 1, 1) := by decide +kernel
theorem dX6_sign_67 : decode cX6_sign 67 = .ok (.iadd, 1) := by decide +kernel
theorem dX6_sign_68 : decode cX6_sign 68 = .ok (.putfield 138, 3) := by decide +kernel
theorem dX6_sign_71 : decode cX6_sign 71 = .ok (.iload_n 3, 1) := by decide +kernel
theorem dX6_sign_72 : decode cX6_sign 72 = .ok (.ireturn, 1) := by decide +kernel
set_option maxRecDepth 20000 in
theorem ggX6_isNext_X6_in : GoodIn wsX6_isNext wsX6_in := goodIn_r _ [8] (by decide +kernel) (by decide +kernel)
set_option maxRecDepth 20000 in
theorem gX6_isNext_X6_in : GoodIn wsX6_isNext (va_wsS RX6 35 yX6_in wsX6_in) := goodIn_app (goodIn_of _ (by decide +kernel)) ggX6_isNext_X6_in
theorem dX6_isNext_0 : decode cX6_isNext 0 = .ok (.aload_n 0, 1) := by decide +kernel
theorem dX6_isNext_1 : decode cX6_isNext 1 = .ok (.getfield 141, 3) := by decide +kernel
theorem dX6_isNext_4 : decode cX6_isNext 4 = .ok (.ifCond .ne 35, 3) := by decide +kernel
theorem dX6_isNext_7 : decode cX6_isNext 7 = .ok (.aload_n 0, 1) := by decide +kernel
theorem dX6_isNext_8 : decode cX6_isNext 8 = .ok (.getfield 138, 3) := by decide +kernel
theorem dX6_isNext_11 : decode cX6_isNext 11 = .ok (.aload_n 0, 1) := by decide +kernel
theorem dX6_isNext_12 : decode cX6_isNext 12 = .ok (.getfield 127, 3) := by decide +kernel
theorem dX6_isNext_15 : decode cX6_isNext 15 = .ok (.if_icmp .ge 24, 3) := by decide +kernel
theorem dX6_isNext_18 : decode cX6_isNext 18 = .ok (.aload_n 0, 1) := by decide +kernel
theorem dX6_isNext_19 : decode cX6_isNext 19 = .ok (.getfield 26, 3) := by decide +kernel
theorem dX6_isNext_22 : decode cX6_isNext 22 = .ok (.aload_n 0, 1) := by decide +kernel
theorem dX6_isNext_23 : decode cX6_isNext 23 = .ok (.getfield 138, 3) := by decide +kernel
theorem dX6_isNext_26 : decode cX6_isNext 26 = .ok (.iaload, 1) := by decide +kernel
theorem dX6_isNext_27 : decode cX6_isNext 27 = .ok (.iload_n 1, 1) := by decide +kernel
theorem dX6_isNext_28 : decode cX6_isNext 28 = .ok (.iload_n 2, 1) := by decide +kernel
theorem dX6_isNext_29 : decode cX6_isNext 29 = .ok (.invokestatic 35, 3) := by decide +kernel
theorem dX6_isNext_32 : decode cX6_isNext 32 = .ok (.ifCond .eq 7, 3) := by decide +kernel
theorem dX6_isNext_35 : decode cX6_isNext 35 = .ok (.iconst 1, 1) := by decide +kernel
theorem dX6_isNext_36 : decode cX6_isNext 36 = .ok (.goto 4, 3) := by decide +kernel
theorem dX6_isNext_39 : decode cX6_isNext 39 = .ok (.iconst 0, 1) := by decide +kernel
theorem dX6_isNext_40 : decode cX6_isNext 40 = .ok (.ireturn, 1) := by decide +kernel
set_option maxRecDepth 20000 in
theorem ggX6_number_X6_sign : GoodIn wsX6_number wsX6_sign := goodIn_r _ [5, 6, 7, 8, 9, 10, 11, 4, 12, 17, 18, 19, 20, 21, 22, 23, 24, 25, 26, 27, 28, 29, 30, 31, 32, 33] (by decide +kernel) (by decide +kernel)
set_option maxRecDepth 20000 in
theorem gX6_number_X6_sign : GoodIn wsX6_number (wsV RX6 145 RX6 yX6_sign wsX6_sign) := goodIn_app (goodIn_of _ (by decide +kernel)) ggX6_number_X6_sign
set_option maxRecDepth 20000 in
theorem ggX6_number_X6_isNext : GoodIn wsX6_number wsX6_isNext := goodIn_r _ [16, 9, 6, 7, 8, 10, 11, 4, 12, 17, 18, 19, 20, 21, 22, 23, 24, 25, 26, 27, 28, 29, 30, 31, 32, 33] (by decide +kernel) (by decide +kernel)
set_option maxRecDepth 20000 in
theorem gX6_number_X6_isNext : GoodIn wsX6_number (wsV RX6 148 RX6 yX6_isNext wsX6_isNext) := goodIn_app (goodIn_of _ (by decide +kernel)) ggX6_number_X6_isNext
theorem dX6_number_0 : decode cX6_number 0 = .ok (.aload_n 0, 1) := by decide +kernel
theorem dX6_number_1 : decode cX6_number 1 = .ok (.bipush 48, 2) := by decide +kernel
theorem dX6_number_3 : decode cX6_number 3 = .ok (.bipush 57, 2) := by decide +kernel
theorem dX6_number_5 : decode cX6_number 5 = .ok (.invokevirtual 145, 3) := by decide +kernel
theorem dX6_number_8 : decode cX6_number 8 = .ok (.bipush 48, 2) := by decide +kernel
theorem dX6_number_10 : decode cX6_number 10 = .ok (.isub, 1) := by decide +kernel
theorem dX6_number_11 : decode cX6_number 11 = .ok (.istore_n 1, 1) := by decide +kernel
theorem dX6_number_12 : decode cX6_number 12 = .ok (.iload_n 1, 1) := by decide +kernel
theorem dX6_number_13 : decode cX6_number 13 = .ok (.ifCond .le 33, 3) := by decide +kernel
theorem dX6_number_16 : decode cX6_number 16 = .ok (.aload_n 0, 1) := by decide +kernel
theorem dX6_number_17 : decode cX6_number 17 = .ok (.bipush 48, 2) := by decide +kernel
theorem dX6_number_19 : decode cX6_number 19 = .ok (.bipush 57, 2) := by decide +kernel
theorem dX6_number_21 : decode cX6_number 21 = .ok (.invokevirtual 148, 3) := by decide +kernel
theorem dX6_number_24 : decode cX6_number 24 = .ok (.ifCond .eq 22, 3) := by decide +kernel
theorem dX6_number_27 : decode cX6_number 27 = .ok (.bipush 10, 2) := by decide +kernel
theorem dX6_number_29 : decode cX6_number 29 = .ok (.iload_n 1, 1) := by decide +kernel
theorem dX6_number_30 : decode cX6_number 30 = .ok (.imul, 1) := by decide +kernel
theorem dX6_number_31 : decode cX6_number 31 = .ok (.aload_n 0, 1) := by decide +kernel
theorem dX6_number_32 : decode cX6_number 32 = .ok (.bipush 48, 2) := by decide +kernel
theorem dX6_number_34 : decode cX6_number 34 = .ok (.bipush 57, 2) := by decide +kernel
theorem dX6_number_36 : decode cX6_number 36 = .ok (.invokevirtual 145, 3) := by decide +kernel
theorem dX6_number_39 : decode cX6_number 39 = .ok (.iadd, 1) := by decide +kernel
theorem dX6_number_40 : decode cX6_number 40 = .ok (.bipush 48, 2) := by decide +kernel
theorem dX6_number_42 : decode cX6_number 42 = .ok (.isub, 1) := by decide +kernel
theorem dX6_number_43 : decode cX6_number 43 = .ok (.goto 4, 3) := by decide +kernel
theorem dX6_number_46 : decode cX6_number 46 = .ok (.iload_n 1, 1) := by decide +kernel
theorem dX6_number_47 : decode cX6_number 47 = .ok (.ireturn, 1) := by decide +kernel
set_option maxRecDepth 20000 in
theorem ggX6_order_X6_number : GoodIn wsX6_order wsX6_number := goodIn_r _ [15, 16, 17, 18, 14, 19, 1, 2, 3, 4, 20, 21, 22, 23, 24, 25, 26, 27, 28, 29, 30, 31, 32, 33, 34, 35, 36, 37, 38, 39, 40, 41, 42, 43] (by decide +kernel) (by decide +kernel)
set_option maxRecDepth 20000 in
theorem gX6_order_X6_number : GoodIn wsX6_order (wsV RX6 155 RX6 yX6_number wsX6_number) := goodIn_app (goodIn_of _ (by decide +kernel)) ggX6_order_X6_number
set_option maxRecDepth 20000 in
theorem ggX6_order_X6_sign : GoodIn wsX6_order wsX6_sign := goodIn_r _ [19, 1, 2, 3, 4, 20, 21, 14, 22, 27, 28, 29, 30, 31, 32, 33, 34, 35, 36, 37, 38, 39, 40, 41, 42, 43] (by decide +kernel) (by decide +kernel)
set_option maxRecDepth 20000 in
theorem gX6_order_X6_sign : GoodIn wsX6_order (wsV RX6 145 RX6 yX6_sign wsX6_sign) := goodIn_app (goodIn_of _ (by decide +kernel)) ggX6_order_X6_sign
set_option maxRecDepth 20000 in
theorem ggX6_order_X6_isNext : GoodIn wsX6_order wsX6_isNext := goodIn_r _ [26, 4, 1, 2, 3, 20, 21, 14, 22, 27, 28, 29, 30, 31, 32, 33, 34, 35, 36, 37, 38, 39, 40, 41, 42, 43] (by decide +kernel) (by decide +kernel)
set_option maxRecDepth 20000 in
theorem gX6_order_X6_isNext : GoodIn wsX6_order (wsV RX6 148 RX6 yX6_isNext wsX6_isNext) := goodIn_app (goodIn_of _ (by decide +kernel)) ggX6_order_X6_isNext
theorem dX6_order_0 : decode cX6_order 0 = .ok (.aload_n 0, 1) := by decide +kernel
theorem dX6_order_1 : decode cX6_order 1 = .ok (.getfield 138, 3) := by decide +kernel
theorem dX6_order_4 : decode cX6_order 4 = .ok (.aload_n 0, 1) := by decide +kernel
theorem dX6_order_5 : decode cX6_order 5 = .ok (.getfield 127, 3) := by decide +kernel
theorem dX6_order_8 : decode cX6_order 8 = .ok (.if_icmp .ge 15, 3) := by decide +kernel
theorem dX6_order_11 : decode cX6_order 11 = .ok (.aload_n 0, 1) := by decide +kernel
theorem dX6_order_12 : decode cX6_order 12 = .ok (.getfield 26, 3) := by decide +kernel
theorem dX6_order_15 : decode cX6_order 15 = .ok (.aload_n 0, 1) := by decide +kernel
theorem dX6_order_16 : decode cX6_order 16 = .ok (.getfield 138, 3) := by decide +kernel
theorem dX6_order_19 : decode cX6_order 19 = .ok (.iaload, 1) := by decide +kernel
theorem dX6_order_20 : decode cX6_order 20 = .ok (.goto 4, 3) := by decide +kernel
theorem dX6_order_23 : decode cX6_order 23 = .ok (.iconst 0, 1) := by decide +kernel
theorem dX6_order_24 : decode cX6_order 24 = .ok (.istore_n 1, 1) := by decide +kernel
theorem dX6_order_25 : decode cX6_order 25 = .ok (.iload_n 1, 1) := by decide +kernel
theorem dX6_order_26 : decode cX6_order 26 = .ok (.bipush 115, 2) := by decide +kernel
theorem dX6_order_28 : decode cX6_order 28 = .ok (.if_icmp .eq 9, 3) := by decide +kernel
theorem dX6_order_31 : decode cX6_order 31 = .ok (.iload_n 1, 1) := by decide +kernel
theorem dX6_order_32 : decode cX6_order 32 = .ok (.bipush 97, 2) := by decide +kernel
theorem dX6_order_34 : decode cX6_order 34 = .ok (.if_icmp .ne 7, 3) := by decide +kernel
theorem dX6_order_37 : decode cX6_order 37 = .ok (.iconst 1, 1) := by decide +kernel
theorem dX6_order_38 : decode cX6_order 38 = .ok (.goto 4, 3) := by decide +kernel
theorem dX6_order_41 : decode cX6_order 41 = .ok (.iconst 0, 1) := by decide +kernel
theorem dX6_order_42 : decode cX6_order 42 = .ok (.istore_n 2, 1) := by decide +kernel
theorem dX6_order_43 : decode cX6_order 43 = .ok (.aload_n 0, 1) := by decide +kernel
theorem dX6_order_44 : decode cX6_order 44 = .ok (.aload_n 0, 1) := by decide +kernel
theorem dX6_order_45 : decode cX6_order 45 = .ok (.getfield 141, 3) := by decide +kernel
theorem dX6_order_48 : decode cX6_order 48 = .ok (.ifCond .ne 31, 3) := by decide +kernel
theorem dX6_order_51 : decode cX6_order 51 = .ok (.iload_n 2, 1) := by decide +kernel
theorem dX6_order_52 : decode cX6_order 52 = .ok (.ifCond .ne 31, 3) := by decide +kernel
theorem dX6_order_55 : decode cX6_order 55 = .ok (.iload_n 1, 1) := by decide +kernel
theorem dX6_order_56 : decode cX6_order 56 = .ok (.bipush 43, 2) := by decide +kernel
theorem dX6_order_58 : decode cX6_order 58 = .ok (.if_icmp .eq 25, 3) := by decide +kernel
theorem dX6_order_61 : decode cX6_order 61 = .ok (.iload_n 1, 1) := by decide +kernel
theorem dX6_order_62 : decode cX6_order 62 = .ok (.bipush 108, 2) := by decide +kernel
theorem dX6_order_64 : decode cX6_order 64 = .ok (.if_icmp .eq 19, 3) := by decide +kernel
theorem dX6_order_67 : decode cX6_order 67 = .ok (.iload_n 1, 1) := by decide +kernel
theorem dX6_order_68 : decode cX6_order 68 = .ok (.bipush 98, 2) := by decide +kernel
theorem dX6_order_70 : decode cX6_order 70 = .ok (.if_icmp .eq 13, 3) := by decide +kernel
theorem dX6_order_73 : decode cX6_order 73 = .ok (.iload_n 1, 1) := by decide +kernel
theorem dX6_order_74 : decode cX6_order 74 = .ok (.bipush 116, 2) := by decide +kernel
theorem dX6_order_76 : decode cX6_order 76 = .ok (.if_icmp .eq 7, 3) := by decide +kernel
theorem dX6_order_79 : decode cX6_order 79 = .ok (.iconst 1, 1) := by decide +kernel
theorem dX6_order_80 : decode cX6_order 80 = .ok (.goto 4, 3) := by decide +kernel
theorem dX6_order_83 : decode cX6_order 83 = .ok (.iconst 0, 1) := by decide +kernel
theorem dX6_order_84 : decode cX6_order 84 = .ok (.putfield 141, 3) := by decide +kernel
theorem dX6_order_87 : decode cX6_order 87 = .ok (.aload_n 0, 1) := by decide +kernel
theorem dX6_order_88 : decode cX6_order 88 = .ok (.dup, 1) := by decide +kernel
theorem dX6_order_89 : decode cX6_order 89 = .ok (.getfield 138, 3) := by decide +kernel
theorem dX6_order_92 : decode cX6_order 92 = .ok (.aload_n 0, 1) := by decide +kernel
theorem dX6_order_93 : decode cX6_order 93 = .ok (.getfield 141, 3) := by decide +kernel
theorem dX6_order_96 : decode cX6_order 96 = .ok (.ifCond .eq 7, 3) := by decide +kernel
theorem dX6_order_99 : decode cX6_order 99 = .ok (.iconst 0, 1) := by decide +kernel
theorem dX6_order_100 : decode cX6_order 100 = .ok (.goto 4, 3) := by decide +kernel
theorem dX6_order_103 : decode cX6_order 103 = .ok (.iconst 1, 1) := by decide +kernel
theorem dX6_order_104 : decode cX6_order 104 = .ok (.iadd, 1) := by decide +kernel
theorem dX6_order_105 : decode cX6_order 105 = .ok (.putfield 138, 3) := by decide +kernel
theorem dX6_order_108 : decode cX6_order 108 = .ok (.aload_n 0, 1) := by decide +kernel
theorem dX6_order_109 : decode cX6_order 109 = .ok (.iload_n 1, 1) := by decide +kernel
theorem dX6_order_110 : decode cX6_order 110 = .ok (.putfield 152, 3) := by decide +kernel
theorem dX6_order_113 : decode cX6_order 113 = .ok (.aload_n 0, 1) := by decide +kernel
theorem dX6_order_114 : decode cX6_order 114 = .ok (.iload_n 2, 1) := by decide +kernel
theorem dX6_order_115 : decode cX6_order 115 = .ok (.ifCond .eq 7, 3) := by decide +kernel
theorem dX6_order_118 : decode cX6_order 118 = .ok (.iconst 0, 1) := by decide +kernel
theorem dX6_order_119 : decode cX6_order 119 = .ok (.goto 7, 3) := by decide +kernel
theorem dX6_order_122 : decode cX6_order 122 = .ok (.aload_n 0, 1) := by decide +kernel
theorem dX6_order_123 : decode cX6_order 123 = .ok (.invokevirtual 155, 3) := by decide +kernel
theorem dX6_order_126 : decode cX6_order 126 = .ok (.putfield 158, 3) := by decide +kernel
theorem dX6_order_129 : decode cX6_order 129 = .ok (.iload_n 1, 1) := by decide +kernel
theorem dX6_order_130 : decode cX6_order 130 = .ok (.bipush 43, 2) := by decide +kernel
theorem dX6_order_132 : decode cX6_order 132 = .ok (.if_icmp .ne 78, 3) := by decide +kernel
theorem dX6_order_135 : decode cX6_order 135 = .ok (.aload_n 0, 1) := by decide +kernel
theorem dX6_order_136 : decode cX6_order 136 = .ok (.bipush 94, 2) := by decide +kernel
theorem dX6_order_138 : decode cX6_order 138 = .ok (.bipush 94, 2) := by decide +kernel
theorem dX6_order_140 : decode cX6_order 140 = .ok (.invokevirtual 145, 3) := by decide +kernel
theorem dX6_order_143 : decode cX6_order 143 = .ok (.istore_n 3, 1) := by decide +kernel
theorem dX6_order_144 : decode cX6_order 144 = .ok (.aload_n 0, 1) := by decide +kernel
theorem dX6_order_145 : decode cX6_order 145 = .ok (.aload_n 0, 1) := by decide +kernel
theorem dX6_order_146 : decode cX6_order 146 = .ok (.invokevirtual 155, 3) := by decide +kernel
theorem dX6_order_149 : decode cX6_order 149 = .ok (.putfield 161, 3) := by decide +kernel
theorem dX6_order_152 : decode cX6_order 152 = .ok (.aload_n 0, 1) := by decide +kernel
theorem dX6_order_153 : decode cX6_order 153 = .ok (.bipush 126, 2) := by decide +kernel
theorem dX6_order_155 : decode cX6_order 155 = .ok (.bipush 126, 2) := by decide +kernel
theorem dX6_order_157 : decode cX6_order 157 = .ok (.invokevirtual 145, 3) := by decide +kernel
theorem dX6_order_160 : decode cX6_order 160 = .ok (.istore_n 3, 1) := by decide +kernel
theorem dX6_order_161 : decode cX6_order 161 = .ok (.aload_n 0, 1) := by decide +kernel
theorem dX6_order_162 : decode cX6_order 162 = .ok (.bipush 45, 2) := by decide +kernel
theorem dX6_order_164 : decode cX6_order 164 = .ok (.bipush 45, 2) := by decide +kernel
theorem dX6_order_166 : decode cX6_order 166 = .ok (.invokevirtual 148, 3) := by decide +kernel
theorem dX6_order_169 : decode cX6_order 169 = .ok (.istore 4, 2) := by decide +kernel
theorem dX6_order_171 : decode cX6_order 171 = .ok (.iload 4, 2) := by decide +kernel
theorem dX6_order_173 : decode cX6_order 173 = .ok (.ifCond .eq 14, 3) := by decide +kernel
theorem dX6_order_176 : decode cX6_order 176 = .ok (.aload_n 0, 1) := by decide +kernel
theorem dX6_order_177 : decode cX6_order 177 = .ok (.bipush 45, 2) := by decide +kernel
theorem dX6_order_179 : decode cX6_order 179 = .ok (.bipush 45, 2) := by decide +kernel
theorem dX6_order_181 : decode cX6_order 181 = .ok (.invokevirtual 145, 3) := by decide +kernel
theorem dX6_order_184 : decode cX6_order 184 = .ok (.goto 4, 3) := by decide +kernel
theorem dX6_order_187 : decode cX6_order 187 = .ok (.iconst 0, 1) := by decide +kernel
theorem dX6_order_188 : decode cX6_order 188 = .ok (.istore_n 3, 1) := by decide +kernel
theorem dX6_order_189 : decode cX6_order 189 = .ok (.aload_n 0, 1) := by decide +kernel
theorem dX6_order_190 : decode cX6_order 190 = .ok (.iload 4, 2) := by decide +kernel
theorem dX6_order_192 : decode cX6_order 192 = .ok (.ifCond .eq 11, 3) := by decide +kernel
theorem dX6_order_195 : decode cX6_order 195 = .ok (.aload_n 0, 1) := by decide +kernel
theorem dX6_order_196 : decode cX6_order 196 = .ok (.invokevirtual 155, 3) := by decide +kernel
theorem dX6_order_199 : decode cX6_order 199 = .ok (.ineg, 1) := by decide +kernel
theorem dX6_order_200 : decode cX6_order 200 = .ok (.goto 7, 3) := by decide +kernel
theorem dX6_order_203 : decode cX6_order 203 = .ok (.aload_n 0, 1) := by decide +kernel
theorem dX6_order_204 : decode cX6_order 204 = .ok (.invokevirtual 155, 3) := by decide +kernel
theorem dX6_order_207 : decode cX6_order 207 = .ok (.putfield 164, 3) := by decide +kernel
theorem dX6_order_210 : decode cX6_order 210 = .ok (.aload_n 0, 1) := by decide +kernel
theorem dX6_order_211 : decode cX6_order 211 = .ok (.getfield 29, 3) := by decide +kernel
theorem dX6_order_214 : decode cX6_order 214 = .ok (.iconst 0, 1) := by decide +kernel
theorem dX6_order_215 : decode cX6_order 215 = .ok (.aload_n 0, 1) := by decide +kernel
theorem dX6_order_216 : decode cX6_order 216 = .ok (.getfield 158, 3) := by decide +kernel
theorem dX6_order_219 : decode cX6_order 219 = .ok (.iastore, 1) := by decide +kernel
theorem dX6_order_220 : decode cX6_order 220 = .ok (.aload_n 0, 1) := by decide +kernel
theorem dX6_order_221 : decode cX6_order 221 = .ok (.iconst 1, 1) := by decide +kernel
theorem dX6_order_222 : decode cX6_order 222 = .ok (.putfield 58, 3) := by decide +kernel
theorem dX6_order_225 : decode cX6_order 225 = .ok (.iload_n 1, 1) := by decide +kernel
theorem dX6_order_226 : decode cX6_order 226 = .ok (.bipush 98, 2) := by decide +kernel
theorem dX6_order_228 : decode cX6_order 228 = .ok (.if_icmp .ne 49, 3) := by decide +kernel
theorem dX6_order_231 : decode cX6_order 231 = .ok (.aload_n 0, 1) := by decide +kernel
theorem dX6_order_232 : decode cX6_order 232 = .ok (.bipush 44, 2) := by decide +kernel
theorem dX6_order_234 : decode cX6_order 234 = .ok (.bipush 44, 2) := by decide +kernel
theorem dX6_order_236 : decode cX6_order 236 = .ok (.invokevirtual 148, 3) := by decide +kernel
theorem dX6_order_239 : decode cX6_order 239 = .ok (.ifCond .eq 38, 3) := by decide +kernel
theorem dX6_order_242 : decode cX6_order 242 = .ok (.aload_n 0, 1) := by decide +kernel
theorem dX6_order_243 : decode cX6_order 243 = .ok (.bipush 44, 2) := by decide +kernel
theorem dX6_order_245 : decode cX6_order 245 = .ok (.bipush 44, 2) := by decide +kernel
theorem dX6_order_247 : decode cX6_order 247 = .ok (.invokevirtual 145, 3) := by decide +kernel
theorem dX6_order_250 : decode cX6_order 250 = .ok (.istore_n 3, 1) := by decide +kernel
theorem dX6_order_251 : decode cX6_order 251 = .ok (.aload_n 0, 1) := by decide +kernel
theorem dX6_order_252 : decode cX6_order 252 = .ok (.getfield 29, 3) := by decide +kernel
theorem dX6_order_255 : decode cX6_order 255 = .ok (.aload_n 0, 1) := by decide +kernel
theorem dX6_order_256 : decode cX6_order 256 = .ok (.getfield 58, 3) := by decide +kernel
theorem dX6_order_259 : decode cX6_order 259 = .ok (.aload_n 0, 1) := by decide +kernel
theorem dX6_order_260 : decode cX6_order 260 = .ok (.invokevirtual 155, 3) := by decide +kernel
theorem dX6_order_263 : decode cX6_order 263 = .ok (.iastore, 1) := by decide +kernel
theorem dX6_order_264 : decode cX6_order 264 = .ok (.aload_n 0, 1) := by decide +kernel
theorem dX6_order_265 : decode cX6_order 265 = .ok (.dup, 1) := by decide +kernel
theorem dX6_order_266 : decode cX6_order 266 = .ok (.getfield 58, 3) := by decide +kernel
theorem dX6_order_269 : decode cX6_order 269 = .ok (.iconst 1, 1) := by decide +kernel
theorem dX6_order_270 : decode cX6_order 270 = .ok (.iadd, 1) := by decide +kernel
theorem dX6_order_271 : decode cX6_order 271 = .ok (.putfield 58, 3) := by decide +kernel
theorem dX6_order_274 : decode cX6_order 274 = .ok (.goto (-49), 3) := by decide +kernel
theorem dX6_order_277 : decode cX6_order 277 = .ok (.return_, 1) := by decide +kernel
set_option maxRecDepth 20000 in
theorem ggX6_rowFault_X6_isClock : GoodIn wsX6_rowFault wsX6_isClock := goodIn_r _ [7, 8, 9, 10, 6, 11, 12, 13, 14, 15, 16, 17, 18, 19, 20, 21, 22, 23, 24, 25, 26, 27, 28] (by decide +kernel) (by decide +kernel)
set_option maxRecDepth 20000 in
theorem gX6_rowFault_X6_isClock : GoodIn wsX6_rowFault (wsV RX6 101 RX6 yX6_isClock wsX6_isClock) := goodIn_app (goodIn_of _ (by decide +kernel)) ggX6_rowFault_X6_isClock
theorem dX6_rowFault_0 : decode cX6_rowFault 0 = .ok (.iconst 0, 1) := by decide +kernel
theorem dX6_rowFault_1 : decode cX6_rowFault 1 = .ok (.istore_n 1, 1) := by decide +kernel
theorem dX6_rowFault_2 : decode cX6_rowFault 2 = .ok (.iconst 0, 1) := by decide +kernel
theorem dX6_rowFault_3 : decode cX6_rowFault 3 = .ok (.istore_n 2, 1) := by decide +kernel
theorem dX6_rowFault_4 : decode cX6_rowFault 4 = .ok (.iload_n 2, 1) := by decide +kernel
theorem dX6_rowFault_5 : decode cX6_rowFault 5 = .ok (.aload_n 0, 1) := by decide +kernel
theorem dX6_rowFault_6 : decode cX6_rowFault 6 = .ok (.getfield 58, 3) := by decide +kernel
theorem dX6_rowFault_9 : decode cX6_rowFault 9 = .ok (.if_icmp .ge 28, 3) := by decide +kernel
theorem dX6_rowFault_12 : decode cX6_rowFault 12 = .ok (.aload_n 0, 1) := by decide +kernel
theorem dX6_rowFault_13 : decode cX6_rowFault 13 = .ok (.aload_n 0, 1) := by decide +kernel
theorem dX6_rowFault_14 : decode cX6_rowFault 14 = .ok (.getfield 29, 3) := by decide +kernel
theorem dX6_rowFault_17 : decode cX6_rowFault 17 = .ok (.iload_n 2, 1) := by decide +kernel
theorem dX6_rowFault_18 : decode cX6_rowFault 18 = .ok (.iaload, 1) := by decide +kernel
theorem dX6_rowFault_19 : decode cX6_rowFault 19 = .ok (.invokevirtual 101, 3) := by decide +kernel
theorem dX6_rowFault_22 : decode cX6_rowFault 22 = .ok (.ifCond .eq 7, 3) := by decide +kernel
theorem dX6_rowFault_25 : decode cX6_rowFault 25 = .ok (.iload_n 1, 1) := by decide +kernel
theorem dX6_rowFault_26 : decode cX6_rowFault 26 = .ok (.goto 4, 3) := by decide +kernel
theorem dX6_rowFault_29 : decode cX6_rowFault 29 = .ok (.iconst (-1), 1) := by decide +kernel
theorem dX6_rowFault_30 : decode cX6_rowFault 30 = .ok (.istore_n 1, 1) := by decide +kernel
theorem dX6_rowFault_31 : decode cX6_rowFault 31 = .ok (.iinc 2 1, 3) := by decide +kernel
theorem dX6_rowFault_34 : decode cX6_rowFault 34 = .ok (.goto (-30), 3) := by decide +kernel
theorem dX6_rowFault_37 : decode cX6_rowFault 37 = .ok (.iload_n 1, 1) := by decide +kernel
theorem dX6_rowFault_38 : decode cX6_rowFault 38 = .ok (.ireturn, 1) := by decide +kernel
set_option maxRecDepth 20000 in
theorem ggX6_does_X6_hangFault : GoodIn wsX6_does wsX6_hangFault := goodIn_r _ [9, 10, 11, 12, 8, 13, 94, 95, 96, 97, 98, 99, 100, 101, 102, 103, 104, 105, 106, 107, 108, 109, 110] (by decide +kernel) (by decide +kernel)
set_option maxRecDepth 20000 in
theorem gX6_does_X6_hangFault : GoodIn wsX6_does (wsV RX6 88 RX6 yX6_hangFault wsX6_hangFault) := goodIn_app (goodIn_of _ (by decide +kernel)) ggX6_does_X6_hangFault
set_option maxRecDepth 20000 in
theorem ggX6_does_X6_ladderFault : GoodIn wsX6_does wsX6_ladderFault := goodIn_r _ [17, 10, 11, 12, 8, 13, 94, 95, 96, 97, 98, 99, 100, 101, 102, 103, 104, 105, 106, 107, 108, 109, 110] (by decide +kernel) (by decide +kernel)
set_option maxRecDepth 20000 in
theorem gX6_does_X6_ladderFault : GoodIn wsX6_does (wsV RX6 95 RX6 yX6_ladderFault wsX6_ladderFault) := goodIn_app (goodIn_of _ (by decide +kernel)) ggX6_does_X6_ladderFault
set_option maxRecDepth 20000 in
theorem ggX6_does_X6_rowFault : GoodIn wsX6_does wsX6_rowFault := goodIn_r _ [21, 22, 23, 24, 25, 26, 8, 27, 10, 11, 12, 13, 94, 95, 96, 97, 98, 99, 100, 101, 102, 103, 104, 105, 106, 107, 108, 109, 110] (by decide +kernel) (by decide +kernel)
set_option maxRecDepth 20000 in
theorem gX6_does_X6_rowFault : GoodIn wsX6_does (wsV RX6 167 RX6 yX6_rowFault wsX6_rowFault) := goodIn_app (goodIn_of _ (by decide +kernel)) ggX6_does_X6_rowFault
set_option maxRecDepth 20000 in
theorem ggX6_does_X6_passFault : GoodIn wsX6_does wsX6_passFault := goodIn_r _ [31, 10, 11, 12, 8, 13, 94, 95, 96, 97, 98, 99, 100, 101, 102, 103, 104, 105, 106, 107, 108, 109, 110] (by decide +kernel) (by decide +kernel)
set_option maxRecDepth 20000 in
theorem gX6_does_X6_passFault : GoodIn wsX6_does (wsV RX6 111 RX6 yX6_passFault wsX6_passFault) := goodIn_app (goodIn_of _ (by decide +kernel)) ggX6_does_X6_passFault
set_option maxRecDepth 20000 in
theorem ggX6_does_X6_hangs : GoodIn wsX6_does wsX6_hangs := goodIn_r _ [35, 10, 36, 37, 8, 38, 94, 95, 96, 97, 98, 99, 100, 101, 102, 103, 104, 105, 106, 107, 108, 109, 110] (by decide +kernel) (by decide +kernel)
set_option maxRecDepth 20000 in
theorem gX6_does_X6_hangs : GoodIn wsX6_does (wsV RX6 92 RX6 yX6_hangs wsX6_hangs) := goodIn_app (goodIn_of _ (by decide +kernel)) ggX6_does_X6_hangs
set_option maxRecDepth 20000 in
theorem ggX6_does_X6_buys : GoodIn wsX6_does wsX6_buys := goodIn_r _ [42, 10, 94, 95, 96, 97, 98, 99, 100, 101, 102, 103, 104, 105, 106, 107, 108, 109, 110] (by decide +kernel) (by decide +kernel)
set_option maxRecDepth 20000 in
theorem gX6_does_X6_buys : GoodIn wsX6_does (wsV RX6 98 RX6 yX6_buys wsX6_buys) := goodIn_app (goodIn_of _ (by decide +kernel)) ggX6_does_X6_buys
set_option maxRecDepth 20000 in
theorem ggX6_does_X6_goes : GoodIn wsX6_does wsX6_goes := goodIn_r _ [46, 22, 23, 10, 47, 48, 49, 8, 50, 51, 52, 53, 54, 36, 37, 38, 55, 56, 57, 58, 59, 60, 61, 62, 63, 64, 65, 66, 67, 68, 69, 70, 71, 72, 73, 11, 12, 13, 94, 95, 96, 97, 98, 99, 100, 101, 102, 103, 104, 105, 106, 107, 108, 109, 110] (by decide +kernel) (by decide +kernel)
set_option maxRecDepth 20000 in
theorem gX6_does_X6_goes : GoodIn wsX6_does (wsV RX6 108 RX6 yX6_goes wsX6_goes) := goodIn_app (goodIn_of _ (by decide +kernel)) ggX6_does_X6_goes
set_option maxRecDepth 20000 in
theorem ggX6_does_X6_passes : GoodIn wsX6_does wsX6_passes := goodIn_r _ [77, 10, 78, 79, 80, 8, 81, 82, 36, 37, 38, 70, 71, 72, 73, 83, 84, 85, 86, 87, 88, 89, 94, 95, 96, 97, 98, 99, 100, 101, 102, 103, 104, 105, 106, 107, 108, 109, 110] (by decide +kernel) (by decide +kernel)
set_option maxRecDepth 20000 in
theorem gX6_does_X6_passes : GoodIn wsX6_does (wsV RX6 114 RX6 yX6_passes wsX6_passes) := goodIn_app (goodIn_of _ (by decide +kernel)) ggX6_does_X6_passes
set_option maxRecDepth 20000 in
theorem ggX6_does_X6_changes : GoodIn wsX6_does wsX6_changes := goodIn_r _ [93, 10, 36, 37, 8, 38, 83, 84, 85, 86, 87, 88, 89, 94, 95, 96, 97, 98, 99, 100, 101, 102, 103, 104, 105, 106, 107, 108, 109, 110] (by decide +kernel) (by decide +kernel)
set_option maxRecDepth 20000 in
theorem gX6_does_X6_changes : GoodIn wsX6_does (wsV RX6 117 RX6 yX6_changes wsX6_changes) := goodIn_app (goodIn_of _ (by decide +kernel)) ggX6_does_X6_changes
theorem dX6_does_0 : decode cX6_does 0 = .ok (.aload_n 0, 1) := by decide +kernel
theorem dX6_does_1 : decode cX6_does 1 = .ok (.getfield 152, 3) := by decide +kernel
theorem dX6_does_4 : decode cX6_does 4 = .ok (.istore_n 1, 1) := by decide +kernel
theorem dX6_does_5 : decode cX6_does 5 = .ok (.iload_n 1, 1) := by decide +kernel
theorem dX6_does_6 : decode cX6_does 6 = .ok (.bipush 43, 2) := by decide +kernel
theorem dX6_does_8 : decode cX6_does 8 = .ok (.if_icmp .ne 22, 3) := by decide +kernel
theorem dX6_does_11 : decode cX6_does 11 = .ok (.aload_n 0, 1) := by decide +kernel
theorem dX6_does_12 : decode cX6_does 12 = .ok (.aload_n 0, 1) := by decide +kernel
theorem dX6_does_13 : decode cX6_does 13 = .ok (.getfield 158, 3) := by decide +kernel
theorem dX6_does_16 : decode cX6_does 16 = .ok (.aload_n 0, 1) := by decide +kernel
theorem dX6_does_17 : decode cX6_does 17 = .ok (.getfield 161, 3) := by decide +kernel
theorem dX6_does_20 : decode cX6_does 20 = .ok (.aload_n 0, 1) := by decide +kernel
theorem dX6_does_21 : decode cX6_does 21 = .ok (.getfield 164, 3) := by decide +kernel
theorem dX6_does_24 : decode cX6_does 24 = .ok (.invokevirtual 88, 3) := by decide +kernel
theorem dX6_does_27 : decode cX6_does 27 = .ok (.goto 51, 3) := by decide +kernel
theorem dX6_does_30 : decode cX6_does 30 = .ok (.iload_n 1, 1) := by decide +kernel
theorem dX6_does_31 : decode cX6_does 31 = .ok (.bipush 108, 2) := by decide +kernel
theorem dX6_does_33 : decode cX6_does 33 = .ok (.if_icmp .ne 14, 3) := by decide +kernel
theorem dX6_does_36 : decode cX6_does 36 = .ok (.aload_n 0, 1) := by decide +kernel
theorem dX6_does_37 : decode cX6_does 37 = .ok (.aload_n 0, 1) := by decide +kernel
theorem dX6_does_38 : decode cX6_does 38 = .ok (.getfield 158, 3) := by decide +kernel
theorem dX6_does_41 : decode cX6_does 41 = .ok (.invokevirtual 95, 3) := by decide +kernel
theorem dX6_does_44 : decode cX6_does 44 = .ok (.goto 34, 3) := by decide +kernel
theorem dX6_does_47 : decode cX6_does 47 = .ok (.iload_n 1, 1) := by decide +kernel
theorem dX6_does_48 : decode cX6_does 48 = .ok (.bipush 98, 2) := by decide +kernel
theorem dX6_does_50 : decode cX6_does 50 = .ok (.if_icmp .ne 10, 3) := by decide +kernel
theorem dX6_does_53 : decode cX6_does 53 = .ok (.aload_n 0, 1) := by decide +kernel
theorem dX6_does_54 : decode cX6_does 54 = .ok (.invokevirtual 167, 3) := by decide +kernel
theorem dX6_does_57 : decode cX6_does 57 = .ok (.goto 21, 3) := by decide +kernel
theorem dX6_does_60 : decode cX6_does 60 = .ok (.iload_n 1, 1) := by decide +kernel
theorem dX6_does_61 : decode cX6_does 61 = .ok (.bipush 116, 2) := by decide +kernel
theorem dX6_does_63 : decode cX6_does 63 = .ok (.if_icmp .ne 14, 3) := by decide +kernel
theorem dX6_does_66 : decode cX6_does 66 = .ok (.aload_n 0, 1) := by decide +kernel
theorem dX6_does_67 : decode cX6_does 67 = .ok (.aload_n 0, 1) := by decide +kernel
theorem dX6_does_68 : decode cX6_does 68 = .ok (.getfield 158, 3) := by decide +kernel
theorem dX6_does_71 : decode cX6_does 71 = .ok (.invokevirtual 111, 3) := by decide +kernel
theorem dX6_does_74 : decode cX6_does 74 = .ok (.goto 4, 3) := by decide +kernel
theorem dX6_does_77 : decode cX6_does 77 = .ok (.iconst 0, 1) := by decide +kernel
theorem dX6_does_78 : decode cX6_does 78 = .ok (.istore_n 2, 1) := by decide +kernel
theorem dX6_does_79 : decode cX6_does 79 = .ok (.iload_n 2, 1) := by decide +kernel
theorem dX6_does_80 : decode cX6_does 80 = .ok (.ifCond .ne 91, 3) := by decide +kernel
theorem dX6_does_83 : decode cX6_does 83 = .ok (.iload_n 1, 1) := by decide +kernel
theorem dX6_does_84 : decode cX6_does 84 = .ok (.bipush 43, 2) := by decide +kernel
theorem dX6_does_86 : decode cX6_does 86 = .ok (.if_icmp .ne 22, 3) := by decide +kernel
theorem dX6_does_89 : decode cX6_does 89 = .ok (.aload_n 0, 1) := by decide +kernel
theorem dX6_does_90 : decode cX6_does 90 = .ok (.aload_n 0, 1) := by decide +kernel
theorem dX6_does_91 : decode cX6_does 91 = .ok (.getfield 158, 3) := by decide +kernel
theorem dX6_does_94 : decode cX6_does 94 = .ok (.aload_n 0, 1) := by decide +kernel
theorem dX6_does_95 : decode cX6_does 95 = .ok (.getfield 161, 3) := by decide +kernel
theorem dX6_does_98 : decode cX6_does 98 = .ok (.aload_n 0, 1) := by decide +kernel
theorem dX6_does_99 : decode cX6_does 99 = .ok (.getfield 164, 3) := by decide +kernel
theorem dX6_does_102 : decode cX6_does 102 = .ok (.invokevirtual 92, 3) := by decide +kernel
theorem dX6_does_105 : decode cX6_does 105 = .ok (.goto 65, 3) := by decide +kernel
theorem dX6_does_108 : decode cX6_does 108 = .ok (.iload_n 1, 1) := by decide +kernel
theorem dX6_does_109 : decode cX6_does 109 = .ok (.bipush 108, 2) := by decide +kernel
theorem dX6_does_111 : decode cX6_does 111 = .ok (.if_icmp .ne 14, 3) := by decide +kernel
theorem dX6_does_114 : decode cX6_does 114 = .ok (.aload_n 0, 1) := by decide +kernel
theorem dX6_does_115 : decode cX6_does 115 = .ok (.aload_n 0, 1) := by decide +kernel
theorem dX6_does_116 : decode cX6_does 116 = .ok (.getfield 158, 3) := by decide +kernel
theorem dX6_does_119 : decode cX6_does 119 = .ok (.invokevirtual 98, 3) := by decide +kernel
theorem dX6_does_122 : decode cX6_does 122 = .ok (.goto 48, 3) := by decide +kernel
theorem dX6_does_125 : decode cX6_does 125 = .ok (.iload_n 1, 1) := by decide +kernel
theorem dX6_does_126 : decode cX6_does 126 = .ok (.bipush 98, 2) := by decide +kernel
theorem dX6_does_128 : decode cX6_does 128 = .ok (.if_icmp .ne 10, 3) := by decide +kernel
theorem dX6_does_131 : decode cX6_does 131 = .ok (.aload_n 0, 1) := by decide +kernel
theorem dX6_does_132 : decode cX6_does 132 = .ok (.invokevirtual 108, 3) := by decide +kernel
theorem dX6_does_135 : decode cX6_does 135 = .ok (.goto 35, 3) := by decide +kernel
theorem dX6_does_138 : decode cX6_does 138 = .ok (.iload_n 1, 1) := by decide +kernel
theorem dX6_does_139 : decode cX6_does 139 = .ok (.bipush 116, 2) := by decide +kernel
theorem dX6_does_141 : decode cX6_does 141 = .ok (.if_icmp .ne 14, 3) := by decide +kernel
theorem dX6_does_144 : decode cX6_does 144 = .ok (.aload_n 0, 1) := by decide +kernel
theorem dX6_does_145 : decode cX6_does 145 = .ok (.aload_n 0, 1) := by decide +kernel
theorem dX6_does_146 : decode cX6_does 146 = .ok (.getfield 158, 3) := by decide +kernel
theorem dX6_does_149 : decode cX6_does 149 = .ok (.invokevirtual 114, 3) := by decide +kernel
theorem dX6_does_152 : decode cX6_does 152 = .ok (.goto 18, 3) := by decide +kernel
theorem dX6_does_155 : decode cX6_does 155 = .ok (.aload_n 0, 1) := by decide +kernel
theorem dX6_does_156 : decode cX6_does 156 = .ok (.iload_n 1, 1) := by decide +kernel
theorem dX6_does_157 : decode cX6_does 157 = .ok (.bipush 97, 2) := by decide +kernel
theorem dX6_does_159 : decode cX6_does 159 = .ok (.if_icmp .ne 7, 3) := by decide +kernel
theorem dX6_does_162 : decode cX6_does 162 = .ok (.iconst 1, 1) := by decide +kernel
theorem dX6_does_163 : decode cX6_does 163 = .ok (.goto 4, 3) := by decide +kernel
theorem dX6_does_166 : decode cX6_does 166 = .ok (.iconst 0, 1) := by decide +kernel
theorem dX6_does_167 : decode cX6_does 167 = .ok (.invokevirtual 117, 3) := by decide +kernel
theorem dX6_does_170 : decode cX6_does 170 = .ok (.istore_n 3, 1) := by decide +kernel
theorem dX6_does_171 : decode cX6_does 171 = .ok (.iload_n 2, 1) := by decide +kernel
theorem dX6_does_172 : decode cX6_does 172 = .ok (.ifCond .ne 7, 3) := by decide +kernel
theorem dX6_does_175 : decode cX6_does 175 = .ok (.iconst 1, 1) := by decide +kernel
theorem dX6_does_176 : decode cX6_does 176 = .ok (.goto 4, 3) := by decide +kernel
theorem dX6_does_179 : decode cX6_does 179 = .ok (.iconst 0, 1) := by decide +kernel
theorem dX6_does_180 : decode cX6_does 180 = .ok (.ireturn, 1) := by decide +kernel
set_option maxRecDepth 20000 in
theorem ggX6_go_X6_order : GoodIn wsX6_go wsX6_order := goodIn_r _ [8, 1, 3, 9, 2, 10, 11, 12, 13, 14, 15, 16, 17, 18, 7, 19, 20, 21, 22, 23, 24, 25, 26, 27, 28, 29, 30, 118, 119, 120, 121, 122, 123, 124, 125, 126, 127, 128, 129, 130, 131, 132, 133, 134] (by decide +kernel) (by decide +kernel)
set_option maxRecDepth 20000 in
theorem gX6_go_X6_order : GoodIn wsX6_go (wsV RX6 170 RX6 yX6_order wsX6_order) := goodIn_app (goodIn_of _ (by decide +kernel)) ggX6_go_X6_order
set_option maxRecDepth 20000 in
theorem ggX6_go_X6_does : GoodIn wsX6_go wsX6_does := goodIn_r _ [34, 10, 11, 12, 13, 35, 36, 37, 7, 38, 39, 24, 25, 26, 40, 41, 42, 43, 44, 45, 46, 47, 15, 14, 48, 49, 50, 51, 52, 53, 54, 55, 56, 57, 58, 59, 60, 61, 62, 63, 64, 65, 66, 67, 68, 69, 70, 71, 72, 73, 74, 75, 76, 77, 78, 79, 80, 81, 82, 83, 84, 85, 86, 87, 88, 89, 90, 91, 92, 93, 94, 95, 96, 97, 98, 99, 100, 101, 102, 103, 104, 105, 106, 107, 108, 109, 110, 111, 112, 113, 114, 115, 116, 117, 118, 119, 120, 121, 122, 123, 124, 125, 126, 127, 128, 129, 130, 131, 132, 133, 134] (by decide +kernel) (by decide +kernel)
set_option maxRecDepth 20000 in
theorem gX6_go_X6_does : GoodIn wsX6_go (wsV RX6 173 RX6 yX6_does wsX6_does) := goodIn_app (goodIn_of _ (by decide +kernel)) ggX6_go_X6_does
set_option maxRecDepth 20000 in
theorem ggX6_go_X6_sign : GoodIn wsX6_go wsX6_sign := goodIn_r _ [23, 1, 3, 9, 2, 24, 25, 7, 26, 118, 119, 120, 121, 122, 123, 124, 125, 126, 127, 128, 129, 130, 131, 132, 133, 134] (by decide +kernel) (by decide +kernel)
set_option maxRecDepth 20000 in
theorem gX6_go_X6_sign : GoodIn wsX6_go (wsV RX6 145 RX6 yX6_sign wsX6_sign) := goodIn_app (goodIn_of _ (by decide +kernel)) ggX6_go_X6_sign
theorem dX6_go_0 : decode cX6_go 0 = .ok (.aload_n 0, 1) := by decide +kernel
theorem dX6_go_1 : decode cX6_go 1 = .ok (.iconst 0, 1) := by decide +kernel
theorem dX6_go_2 : decode cX6_go 2 = .ok (.putfield 138, 3) := by decide +kernel
theorem dX6_go_5 : decode cX6_go 5 = .ok (.aload_n 0, 1) := by decide +kernel
theorem dX6_go_6 : decode cX6_go 6 = .ok (.iconst 0, 1) := by decide +kernel
theorem dX6_go_7 : decode cX6_go 7 = .ok (.putfield 141, 3) := by decide +kernel
theorem dX6_go_10 : decode cX6_go 10 = .ok (.iconst 0, 1) := by decide +kernel
theorem dX6_go_11 : decode cX6_go 11 = .ok (.istore_n 2, 1) := by decide +kernel
theorem dX6_go_12 : decode cX6_go 12 = .ok (.iconst 1, 1) := by decide +kernel
theorem dX6_go_13 : decode cX6_go 13 = .ok (.istore_n 3, 1) := by decide +kernel
theorem dX6_go_14 : decode cX6_go 14 = .ok (.iload_n 3, 1) := by decide +kernel
theorem dX6_go_15 : decode cX6_go 15 = .ok (.ifCond .eq 101, 3) := by decide +kernel
theorem dX6_go_18 : decode cX6_go 18 = .ok (.aload_n 0, 1) := by decide +kernel
theorem dX6_go_19 : decode cX6_go 19 = .ok (.invokevirtual 170, 3) := by decide +kernel
theorem dX6_go_22 : decode cX6_go 22 = .ok (.iload_n 1, 1) := by decide +kernel
theorem dX6_go_23 : decode cX6_go 23 = .ok (.ifCond .eq 14, 3) := by decide +kernel
theorem dX6_go_26 : decode cX6_go 26 = .ok (.aload_n 0, 1) := by decide +kernel
theorem dX6_go_27 : decode cX6_go 27 = .ok (.invokevirtual 173, 3) := by decide +kernel
theorem dX6_go_30 : decode cX6_go 30 = .ok (.ifCond .eq 7, 3) := by decide +kernel
theorem dX6_go_33 : decode cX6_go 33 = .ok (.iconst 1, 1) := by decide +kernel
theorem dX6_go_34 : decode cX6_go 34 = .ok (.goto 4, 3) := by decide +kernel
theorem dX6_go_37 : decode cX6_go 37 = .ok (.iconst 0, 1) := by decide +kernel
theorem dX6_go_38 : decode cX6_go 38 = .ok (.istore 4, 2) := by decide +kernel
theorem dX6_go_40 : decode cX6_go 40 = .ok (.iload_n 2, 1) := by decide +kernel
theorem dX6_go_41 : decode cX6_go 41 = .ok (.iload 4, 2) := by decide +kernel
theorem dX6_go_43 : decode cX6_go 43 = .ok (.ifCond .eq 7, 3) := by decide +kernel
theorem dX6_go_46 : decode cX6_go 46 = .ok (.iconst 1, 1) := by decide +kernel
theorem dX6_go_47 : decode cX6_go 47 = .ok (.goto 4, 3) := by decide +kernel
theorem dX6_go_50 : decode cX6_go 50 = .ok (.iconst 0, 1) := by decide +kernel
theorem dX6_go_51 : decode cX6_go 51 = .ok (.iadd, 1) := by decide +kernel
theorem dX6_go_52 : decode cX6_go 52 = .ok (.istore_n 2, 1) := by decide +kernel
theorem dX6_go_53 : decode cX6_go 53 = .ok (.aload_n 0, 1) := by decide +kernel
theorem dX6_go_54 : decode cX6_go 54 = .ok (.getfield 141, 3) := by decide +kernel
theorem dX6_go_57 : decode cX6_go 57 = .ok (.ifCond .ne 27, 3) := by decide +kernel
theorem dX6_go_60 : decode cX6_go 60 = .ok (.iload 4, 2) := by decide +kernel
theorem dX6_go_62 : decode cX6_go 62 = .ok (.ifCond .ne 7, 3) := by decide +kernel
theorem dX6_go_65 : decode cX6_go 65 = .ok (.iload_n 1, 1) := by decide +kernel
theorem dX6_go_66 : decode cX6_go 66 = .ok (.ifCond .ne 18, 3) := by decide +kernel
theorem dX6_go_69 : decode cX6_go 69 = .ok (.aload_n 0, 1) := by decide +kernel
theorem dX6_go_70 : decode cX6_go 70 = .ok (.getfield 138, 3) := by decide +kernel
theorem dX6_go_73 : decode cX6_go 73 = .ok (.aload_n 0, 1) := by decide +kernel
theorem dX6_go_74 : decode cX6_go 74 = .ok (.getfield 127, 3) := by decide +kernel
theorem dX6_go_77 : decode cX6_go 77 = .ok (.if_icmp .ge 7, 3) := by decide +kernel
theorem dX6_go_80 : decode cX6_go 80 = .ok (.iconst 1, 1) := by decide +kernel
theorem dX6_go_81 : decode cX6_go 81 = .ok (.goto 4, 3) := by decide +kernel
theorem dX6_go_84 : decode cX6_go 84 = .ok (.iconst 0, 1) := by decide +kernel
theorem dX6_go_85 : decode cX6_go 85 = .ok (.istore_n 3, 1) := by decide +kernel
theorem dX6_go_86 : decode cX6_go 86 = .ok (.iload_n 3, 1) := by decide +kernel
theorem dX6_go_87 : decode cX6_go 87 = .ok (.ifCond .eq 26, 3) := by decide +kernel
theorem dX6_go_90 : decode cX6_go 90 = .ok (.aload_n 0, 1) := by decide +kernel
theorem dX6_go_91 : decode cX6_go 91 = .ok (.bipush 59, 2) := by decide +kernel
theorem dX6_go_93 : decode cX6_go 93 = .ok (.bipush 59, 2) := by decide +kernel
theorem dX6_go_95 : decode cX6_go 95 = .ok (.invokevirtual 145, 3) := by decide +kernel
theorem dX6_go_98 : decode cX6_go 98 = .ok (.istore 5, 2) := by decide +kernel
theorem dX6_go_100 : decode cX6_go 100 = .ok (.aload_n 0, 1) := by decide +kernel
theorem dX6_go_101 : decode cX6_go 101 = .ok (.getfield 141, 3) := by decide +kernel
theorem dX6_go_104 : decode cX6_go 104 = .ok (.ifCond .ne 7, 3) := by decide +kernel
theorem dX6_go_107 : decode cX6_go 107 = .ok (.iconst 1, 1) := by decide +kernel
theorem dX6_go_108 : decode cX6_go 108 = .ok (.goto 4, 3) := by decide +kernel
theorem dX6_go_111 : decode cX6_go 111 = .ok (.iconst 0, 1) := by decide +kernel
theorem dX6_go_112 : decode cX6_go 112 = .ok (.istore_n 3, 1) := by decide +kernel
theorem dX6_go_113 : decode cX6_go 113 = .ok (.goto (-99), 3) := by decide +kernel
theorem dX6_go_116 : decode cX6_go 116 = .ok (.iload_n 2, 1) := by decide +kernel
theorem dX6_go_117 : decode cX6_go 117 = .ok (.ireturn, 1) := by decide +kernel
set_option maxRecDepth 20000 in
theorem ggX6_fault_X6_go : GoodIn wsX6_fault wsX6_go := goodIn_r _ [7, 2, 1, 8, 9, 10, 11, 6, 12, 13, 14, 15, 16, 17, 18, 19, 20, 21, 22, 23, 24, 25, 26, 27, 28, 29, 30, 31, 32, 33, 34, 35, 36, 37, 38, 39, 40, 41, 42, 43, 44, 45, 46, 47, 48, 49, 50, 51, 52, 53, 54, 55, 56, 57, 58, 59, 60, 61, 62, 63, 64, 65, 66, 67, 68, 69, 70, 71, 72, 73, 74, 75, 76, 77, 78, 79, 80, 81, 82, 83, 84, 85, 86, 87, 88, 89, 90, 91, 92, 93, 94, 95, 96, 97, 98, 99, 100, 101, 102, 103, 104, 105, 106, 107, 108, 109, 110, 111, 112, 113, 114, 115, 116, 117, 118, 119, 120, 121, 122, 123, 124, 125, 126, 127, 128, 129, 130, 131, 132, 133, 134, 135, 136, 137, 138] (by decide +kernel) (by decide +kernel)
set_option maxRecDepth 20000 in
theorem gX6_fault_X6_go : GoodIn wsX6_fault (wsV RX6 177 RX6 yX6_go wsX6_go) := goodIn_app (goodIn_of _ (by decide +kernel)) ggX6_fault_X6_go
theorem dX6_fault_0 : decode cX6_fault 0 = .ok (.aload_n 0, 1) := by decide +kernel
theorem dX6_fault_1 : decode cX6_fault 1 = .ok (.iconst 0, 1) := by decide +kernel
theorem dX6_fault_2 : decode cX6_fault 2 = .ok (.invokevirtual 177, 3) := by decide +kernel
theorem dX6_fault_5 : decode cX6_fault 5 = .ok (.istore_n 1, 1) := by decide +kernel
theorem dX6_fault_6 : decode cX6_fault 6 = .ok (.aload_n 0, 1) := by decide +kernel
theorem dX6_fault_7 : decode cX6_fault 7 = .ok (.getfield 141, 3) := by decide +kernel
theorem dX6_fault_10 : decode cX6_fault 10 = .ok (.ifCond .eq 10, 3) := by decide +kernel
theorem dX6_fault_13 : decode cX6_fault 13 = .ok (.aload_n 0, 1) := by decide +kernel
theorem dX6_fault_14 : decode cX6_fault 14 = .ok (.getfield 138, 3) := by decide +kernel
theorem dX6_fault_17 : decode cX6_fault 17 = .ok (.goto 5, 3) := by decide +kernel
theorem dX6_fault_20 : decode cX6_fault 20 = .ok (.bipush (-6), 2) := by decide +kernel
theorem dX6_fault_22 : decode cX6_fault 22 = .ok (.ireturn, 1) := by decide +kernel
set_option maxRecDepth 20000 in
theorem ggX6_carryOut_X6_go : GoodIn wsX6_carryOut wsX6_go := goodIn_r _ [7, 8, 1, 2, 9, 10, 11, 6, 12, 13, 14, 15, 16, 17, 18, 19, 20, 21, 22, 23, 24, 25, 26, 27, 28, 29, 30, 31, 32, 33, 34, 35, 36, 37, 38, 39, 40, 41, 42, 43, 44, 45, 46, 47, 48, 49, 50, 51, 52, 53, 54, 55, 56, 57, 58, 59, 60, 61, 62, 63, 64, 65, 66, 67, 68, 69, 70, 71, 72, 73, 74, 75, 76, 77, 78, 79, 80, 81, 82, 83, 84, 85, 86, 87, 88, 89, 90, 91, 92, 93, 94, 95, 96, 97, 98, 99, 100, 101, 102, 103, 104, 105, 106, 107, 108, 109, 110, 111, 112, 113, 114, 115, 116, 117, 118, 119, 120, 121, 128, 129, 130, 131, 132, 133, 134, 135, 136, 137, 138, 139, 140, 141, 142, 143, 144] (by decide +kernel) (by decide +kernel)
set_option maxRecDepth 20000 in
theorem gX6_carryOut_X6_go : GoodIn wsX6_carryOut (wsV RX6 177 RX6 yX6_go wsX6_go) := goodIn_app (goodIn_of _ (by decide +kernel)) ggX6_carryOut_X6_go
set_option maxRecDepth 20000 in
theorem ggX6_carryOut_X6_know : GoodIn wsX6_carryOut wsX6_know := goodIn_r _ [125, 126, 127, 43, 128, 129, 130, 131, 132, 133, 134, 135, 136, 137, 138, 139, 140, 141, 142, 143, 144] (by decide +kernel) (by decide +kernel)
set_option maxRecDepth 20000 in
theorem gX6_carryOut_X6_know : GoodIn wsX6_carryOut (wsV RX6 85 RX6 yX6_know wsX6_know) := goodIn_app (goodIn_of _ (by decide +kernel)) ggX6_carryOut_X6_know
theorem dX6_carryOut_0 : decode cX6_carryOut 0 = .ok (.aload_n 0, 1) := by decide +kernel
theorem dX6_carryOut_1 : decode cX6_carryOut 1 = .ok (.iconst 0, 1) := by decide +kernel
theorem dX6_carryOut_2 : decode cX6_carryOut 2 = .ok (.invokevirtual 177, 3) := by decide +kernel
theorem dX6_carryOut_5 : decode cX6_carryOut 5 = .ok (.istore_n 1, 1) := by decide +kernel
theorem dX6_carryOut_6 : decode cX6_carryOut 6 = .ok (.aload_n 0, 1) := by decide +kernel
theorem dX6_carryOut_7 : decode cX6_carryOut 7 = .ok (.getfield 141, 3) := by decide +kernel
theorem dX6_carryOut_10 : decode cX6_carryOut 10 = .ok (.ifCond .eq 6, 3) := by decide +kernel
theorem dX6_carryOut_13 : decode cX6_carryOut 13 = .ok (.bipush (-3), 2) := by decide +kernel
theorem dX6_carryOut_15 : decode cX6_carryOut 15 = .ok (.ireturn, 1) := by decide +kernel
theorem dX6_carryOut_16 : decode cX6_carryOut 16 = .ok (.aload_n 0, 1) := by decide +kernel
theorem dX6_carryOut_17 : decode cX6_carryOut 17 = .ok (.invokevirtual 85, 3) := by decide +kernel
theorem dX6_carryOut_20 : decode cX6_carryOut 20 = .ok (.aload_n 0, 1) := by decide +kernel
theorem dX6_carryOut_21 : decode cX6_carryOut 21 = .ok (.iconst 1, 1) := by decide +kernel
theorem dX6_carryOut_22 : decode cX6_carryOut 22 = .ok (.invokevirtual 177, 3) := by decide +kernel
theorem dX6_carryOut_25 : decode cX6_carryOut 25 = .ok (.istore_n 2, 1) := by decide +kernel
theorem dX6_carryOut_26 : decode cX6_carryOut 26 = .ok (.aload_n 0, 1) := by decide +kernel
theorem dX6_carryOut_27 : decode cX6_carryOut 27 = .ok (.iconst 0, 1) := by decide +kernel
theorem dX6_carryOut_28 : decode cX6_carryOut 28 = .ok (.putfield 127, 3) := by decide +kernel
theorem dX6_carryOut_31 : decode cX6_carryOut 31 = .ok (.iload_n 2, 1) := by decide +kernel
theorem dX6_carryOut_32 : decode cX6_carryOut 32 = .ok (.ireturn, 1) := by decide +kernel
theorem dX6_undo_0 : decode cX6_undo 0 = .ok (.aload_n 0, 1) := by decide +kernel
theorem dX6_undo_1 : decode cX6_undo 1 = .ok (.getfield 39, 3) := by decide +kernel
theorem dX6_undo_4 : decode cX6_undo 4 = .ok (.ifCond .ne 6, 3) := by decide +kernel
theorem dX6_undo_7 : decode cX6_undo 7 = .ok (.bipush (-5), 2) := by decide +kernel
theorem dX6_undo_9 : decode cX6_undo 9 = .ok (.ireturn, 1) := by decide +kernel
theorem dX6_undo_10 : decode cX6_undo 10 = .ok (.aload_n 0, 1) := by decide +kernel
theorem dX6_undo_11 : decode cX6_undo 11 = .ok (.dup, 1) := by decide +kernel
theorem dX6_undo_12 : decode cX6_undo 12 = .ok (.getfield 39, 3) := by decide +kernel
theorem dX6_undo_15 : decode cX6_undo 15 = .ok (.iconst 1, 1) := by decide +kernel
theorem dX6_undo_16 : decode cX6_undo 16 = .ok (.isub, 1) := by decide +kernel
theorem dX6_undo_17 : decode cX6_undo 17 = .ok (.putfield 39, 3) := by decide +kernel
theorem dX6_undo_20 : decode cX6_undo 20 = .ok (.iconst 0, 1) := by decide +kernel
theorem dX6_undo_21 : decode cX6_undo 21 = .ok (.istore_n 1, 1) := by decide +kernel
theorem dX6_undo_22 : decode cX6_undo 22 = .ok (.iload_n 1, 1) := by decide +kernel
theorem dX6_undo_23 : decode cX6_undo 23 = .ok (.sipush 140, 3) := by decide +kernel
theorem dX6_undo_26 : decode cX6_undo 26 = .ok (.if_icmp .ge 30, 3) := by decide +kernel
theorem dX6_undo_29 : decode cX6_undo 29 = .ok (.aload_n 0, 1) := by decide +kernel
theorem dX6_undo_30 : decode cX6_undo 30 = .ok (.getfield 7, 3) := by decide +kernel
theorem dX6_undo_33 : decode cX6_undo 33 = .ok (.iload_n 1, 1) := by decide +kernel
theorem dX6_undo_34 : decode cX6_undo 34 = .ok (.aload_n 0, 1) := by decide +kernel
theorem dX6_undo_35 : decode cX6_undo 35 = .ok (.getfield 16, 3) := by decide +kernel
theorem dX6_undo_38 : decode cX6_undo 38 = .ok (.sipush 140, 3) := by decide +kernel
theorem dX6_undo_41 : decode cX6_undo 41 = .ok (.aload_n 0, 1) := by decide +kernel
theorem dX6_undo_42 : decode cX6_undo 42 = .ok (.getfield 39, 3) := by decide +kernel
theorem dX6_undo_45 : decode cX6_undo 45 = .ok (.imul, 1) := by decide +kernel
theorem dX6_undo_46 : decode cX6_undo 46 = .ok (.iload_n 1, 1) := by decide +kernel
theorem dX6_undo_47 : decode cX6_undo 47 = .ok (.iadd, 1) := by decide +kernel
theorem dX6_undo_48 : decode cX6_undo 48 = .ok (.iaload, 1) := by decide +kernel
theorem dX6_undo_49 : decode cX6_undo 49 = .ok (.iastore, 1) := by decide +kernel
theorem dX6_undo_50 : decode cX6_undo 50 = .ok (.iinc 1 1, 3) := by decide +kernel
theorem dX6_undo_53 : decode cX6_undo 53 = .ok (.goto (-31), 3) := by decide +kernel
theorem dX6_undo_56 : decode cX6_undo 56 = .ok (.aload_n 0, 1) := by decide +kernel
theorem dX6_undo_57 : decode cX6_undo 57 = .ok (.getfield 39, 3) := by decide +kernel
theorem dX6_undo_60 : decode cX6_undo 60 = .ok (.ireturn, 1) := by decide +kernel
set_option maxRecDepth 20000 in
theorem ggX6_save_X6_in : GoodIn wsX6_save wsX6_in := goodIn_r _ [7] (by decide +kernel) (by decide +kernel)
set_option maxRecDepth 20000 in
theorem gX6_save_X6_in : GoodIn wsX6_save (va_wsS RX6 35 yX6_in wsX6_in) := goodIn_app (goodIn_of _ (by decide +kernel)) ggX6_save_X6_in
theorem dX6_save_0 : decode cX6_save 0 = .ok (.iload_n 1, 1) := by decide +kernel
theorem dX6_save_1 : decode cX6_save 1 = .ok (.iconst 0, 1) := by decide +kernel
theorem dX6_save_2 : decode cX6_save 2 = .ok (.iconst 1, 1) := by decide +kernel
theorem dX6_save_3 : decode cX6_save 3 = .ok (.invokestatic 35, 3) := by decide +kernel
theorem dX6_save_6 : decode cX6_save 6 = .ok (.ifCond .ne 6, 3) := by decide +kernel
theorem dX6_save_9 : decode cX6_save 9 = .ok (.bipush (-2), 2) := by decide +kernel
theorem dX6_save_11 : decode cX6_save 11 = .ok (.ireturn, 1) := by decide +kernel
theorem dX6_save_12 : decode cX6_save 12 = .ok (.iconst 0, 1) := by decide +kernel
theorem dX6_save_13 : decode cX6_save 13 = .ok (.istore_n 2, 1) := by decide +kernel
theorem dX6_save_14 : decode cX6_save 14 = .ok (.iload_n 2, 1) := by decide +kernel
theorem dX6_save_15 : decode cX6_save 15 = .ok (.sipush 140, 3) := by decide +kernel
theorem dX6_save_18 : decode cX6_save 18 = .ok (.if_icmp .ge 27, 3) := by decide +kernel
theorem dX6_save_21 : decode cX6_save 21 = .ok (.aload_n 0, 1) := by decide +kernel
theorem dX6_save_22 : decode cX6_save 22 = .ok (.getfield 19, 3) := by decide +kernel
theorem dX6_save_25 : decode cX6_save 25 = .ok (.sipush 140, 3) := by decide +kernel
theorem dX6_save_28 : decode cX6_save 28 = .ok (.iload_n 1, 1) := by decide +kernel
theorem dX6_save_29 : decode cX6_save 29 = .ok (.imul, 1) := by decide +kernel
theorem dX6_save_30 : decode cX6_save 30 = .ok (.iload_n 2, 1) := by decide +kernel
theorem dX6_save_31 : decode cX6_save 31 = .ok (.iadd, 1) := by decide +kernel
theorem dX6_save_32 : decode cX6_save 32 = .ok (.aload_n 0, 1) := by decide +kernel
theorem dX6_save_33 : decode cX6_save 33 = .ok (.getfield 7, 3) := by decide +kernel
theorem dX6_save_36 : decode cX6_save 36 = .ok (.iload_n 2, 1) := by decide +kernel
theorem dX6_save_37 : decode cX6_save 37 = .ok (.iaload, 1) := by decide +kernel
theorem dX6_save_38 : decode cX6_save 38 = .ok (.iastore, 1) := by decide +kernel
theorem dX6_save_39 : decode cX6_save 39 = .ok (.iinc 2 1, 3) := by decide +kernel
theorem dX6_save_42 : decode cX6_save 42 = .ok (.goto (-28), 3) := by decide +kernel
theorem dX6_save_45 : decode cX6_save 45 = .ok (.aload_n 0, 1) := by decide +kernel
theorem dX6_save_46 : decode cX6_save 46 = .ok (.getfield 22, 3) := by decide +kernel
theorem dX6_save_49 : decode cX6_save 49 = .ok (.iload_n 1, 1) := by decide +kernel
theorem dX6_save_50 : decode cX6_save 50 = .ok (.iconst 1, 1) := by decide +kernel
theorem dX6_save_51 : decode cX6_save 51 = .ok (.bastore, 1) := by decide +kernel
theorem dX6_save_52 : decode cX6_save 52 = .ok (.aload_n 0, 1) := by decide +kernel
theorem dX6_save_53 : decode cX6_save 53 = .ok (.getfield 7, 3) := by decide +kernel
theorem dX6_save_56 : decode cX6_save 56 = .ok (.iconst 5, 1) := by decide +kernel
theorem dX6_save_57 : decode cX6_save 57 = .ok (.iaload, 1) := by decide +kernel
theorem dX6_save_58 : decode cX6_save 58 = .ok (.ireturn, 1) := by decide +kernel
set_option maxRecDepth 20000 in
theorem ggX6_restore_X6_in : GoodIn wsX6_restore wsX6_in := goodIn_r _ [7] (by decide +kernel) (by decide +kernel)
set_option maxRecDepth 20000 in
theorem gX6_restore_X6_in : GoodIn wsX6_restore (va_wsS RX6 35 yX6_in wsX6_in) := goodIn_app (goodIn_of _ (by decide +kernel)) ggX6_restore_X6_in
set_option maxRecDepth 20000 in
theorem ggX6_restore_X6_know : GoodIn wsX6_restore wsX6_know := goodIn_r _ [11, 12, 13, 2, 14, 15, 16, 17, 18, 19, 20, 21, 22, 23, 24, 25, 26, 27, 28, 29, 30] (by decide +kernel) (by decide +kernel)
set_option maxRecDepth 20000 in
theorem gX6_restore_X6_know : GoodIn wsX6_restore (wsV RX6 85 RX6 yX6_know wsX6_know) := goodIn_app (goodIn_of _ (by decide +kernel)) ggX6_restore_X6_know
theorem dX6_restore_0 : decode cX6_restore 0 = .ok (.iload_n 1, 1) := by decide +kernel
theorem dX6_restore_1 : decode cX6_restore 1 = .ok (.iconst 0, 1) := by decide +kernel
theorem dX6_restore_2 : decode cX6_restore 2 = .ok (.iconst 1, 1) := by decide +kernel
theorem dX6_restore_3 : decode cX6_restore 3 = .ok (.invokestatic 35, 3) := by decide +kernel
theorem dX6_restore_6 : decode cX6_restore 6 = .ok (.ifCond .ne 6, 3) := by decide +kernel
theorem dX6_restore_9 : decode cX6_restore 9 = .ok (.bipush (-2), 2) := by decide +kernel
theorem dX6_restore_11 : decode cX6_restore 11 = .ok (.ireturn, 1) := by decide +kernel
theorem dX6_restore_12 : decode cX6_restore 12 = .ok (.aload_n 0, 1) := by decide +kernel
theorem dX6_restore_13 : decode cX6_restore 13 = .ok (.getfield 22, 3) := by decide +kernel
theorem dX6_restore_16 : decode cX6_restore 16 = .ok (.iload_n 1, 1) := by decide +kernel
theorem dX6_restore_17 : decode cX6_restore 17 = .ok (.baload, 1) := by decide +kernel
theorem dX6_restore_18 : decode cX6_restore 18 = .ok (.ifCond .ne 6, 3) := by decide +kernel
theorem dX6_restore_21 : decode cX6_restore 21 = .ok (.bipush (-5), 2) := by decide +kernel
theorem dX6_restore_23 : decode cX6_restore 23 = .ok (.ireturn, 1) := by decide +kernel
theorem dX6_restore_24 : decode cX6_restore 24 = .ok (.aload_n 0, 1) := by decide +kernel
theorem dX6_restore_25 : decode cX6_restore 25 = .ok (.invokevirtual 85, 3) := by decide +kernel
theorem dX6_restore_28 : decode cX6_restore 28 = .ok (.iconst 0, 1) := by decide +kernel
theorem dX6_restore_29 : decode cX6_restore 29 = .ok (.istore_n 2, 1) := by decide +kernel
theorem dX6_restore_30 : decode cX6_restore 30 = .ok (.iload_n 2, 1) := by decide +kernel
theorem dX6_restore_31 : decode cX6_restore 31 = .ok (.sipush 140, 3) := by decide +kernel
theorem dX6_restore_34 : decode cX6_restore 34 = .ok (.if_icmp .ge 27, 3) := by decide +kernel
theorem dX6_restore_37 : decode cX6_restore 37 = .ok (.aload_n 0, 1) := by decide +kernel
theorem dX6_restore_38 : decode cX6_restore 38 = .ok (.getfield 7, 3) := by decide +kernel
theorem dX6_restore_41 : decode cX6_restore 41 = .ok (.iload_n 2, 1) := by decide +kernel
theorem dX6_restore_42 : decode cX6_restore 42 = .ok (.aload_n 0, 1) := by decide +kernel
theorem dX6_restore_43 : decode cX6_restore 43 = .ok (.getfield 19, 3) := by decide +kernel
theorem dX6_restore_46 : decode cX6_restore 46 = .ok (.sipush 140, 3) := by decide +kernel
theorem dX6_restore_49 : decode cX6_restore 49 = .ok (.iload_n 1, 1) := by decide +kernel
theorem dX6_restore_50 : decode cX6_restore 50 = .ok (.imul, 1) := by decide +kernel
theorem dX6_restore_51 : decode cX6_restore 51 = .ok (.iload_n 2, 1) := by decide +kernel
theorem dX6_restore_52 : decode cX6_restore 52 = .ok (.iadd, 1) := by decide +kernel
theorem dX6_restore_53 : decode cX6_restore 53 = .ok (.iaload, 1) := by decide +kernel
theorem dX6_restore_54 : decode cX6_restore 54 = .ok (.iastore, 1) := by decide +kernel
theorem dX6_restore_55 : decode cX6_restore 55 = .ok (.iinc 2 1, 3) := by decide +kernel
theorem dX6_restore_58 : decode cX6_restore 58 = .ok (.goto (-28), 3) := by decide +kernel
theorem dX6_restore_61 : decode cX6_restore 61 = .ok (.aload_n 0, 1) := by decide +kernel
theorem dX6_restore_62 : decode cX6_restore 62 = .ok (.getfield 7, 3) := by decide +kernel
theorem dX6_restore_65 : decode cX6_restore 65 = .ok (.iconst 5, 1) := by decide +kernel
theorem dX6_restore_66 : decode cX6_restore 66 = .ok (.iaload, 1) := by decide +kernel
theorem dX6_restore_67 : decode cX6_restore 67 = .ok (.ireturn, 1) := by decide +kernel
theorem dJ9_abs_0f7a4_0 : decode cJ9_abs_0f7a4 0 = .ok (.iload_n 0, 1) := by decide +kernel
theorem dJ9_abs_0f7a4_1 : decode cJ9_abs_0f7a4 1 = .ok (.ifCond .ge 8, 3) := by decide +kernel
theorem dJ9_abs_0f7a4_4 : decode cJ9_abs_0f7a4 4 = .ok (.iload_n 0, 1) := by decide +kernel
theorem dJ9_abs_0f7a4_5 : decode cJ9_abs_0f7a4 5 = .ok (.ineg, 1) := by decide +kernel
theorem dJ9_abs_0f7a4_6 : decode cJ9_abs_0f7a4 6 = .ok (.goto 4, 3) := by decide +kernel
theorem dJ9_abs_0f7a4_9 : decode cJ9_abs_0f7a4 9 = .ok (.iload_n 0, 1) := by decide +kernel
theorem dJ9_abs_0f7a4_10 : decode cJ9_abs_0f7a4 10 = .ok (.ireturn, 1) := by decide +kernel
theorem dJ9_max_7cf53_0 : decode cJ9_max_7cf53 0 = .ok (.iload_n 0, 1) := by decide +kernel
theorem dJ9_max_7cf53_1 : decode cJ9_max_7cf53 1 = .ok (.iload_n 1, 1) := by decide +kernel
theorem dJ9_max_7cf53_2 : decode cJ9_max_7cf53 2 = .ok (.if_icmp .lt 7, 3) := by decide +kernel
theorem dJ9_max_7cf53_5 : decode cJ9_max_7cf53 5 = .ok (.iload_n 0, 1) := by decide +kernel
theorem dJ9_max_7cf53_6 : decode cJ9_max_7cf53 6 = .ok (.goto 4, 3) := by decide +kernel
theorem dJ9_max_7cf53_9 : decode cJ9_max_7cf53 9 = .ok (.iload_n 1, 1) := by decide +kernel
theorem dJ9_max_7cf53_10 : decode cJ9_max_7cf53 10 = .ok (.ireturn, 1) := by decide +kernel
