theorem dL_cell_0 : decode cL_cell 0 = .ok (.iload_n 1, 1) := by decide +kernel
theorem dL_cell_1 : decode cL_cell 1 = .ok (.aload_n 0, 1) := by decide +kernel
theorem dL_cell_2 : decode cL_cell 2 = .ok (.arraylength, 1) := by decide +kernel
theorem dL_cell_3 : decode cL_cell 3 = .ok (.if_icmp .ge 9, 3) := by decide +kernel
theorem dL_cell_6 : decode cL_cell 6 = .ok (.aload_n 0, 1) := by decide +kernel
theorem dL_cell_7 : decode cL_cell 7 = .ok (.iload_n 1, 1) := by decide +kernel
theorem dL_cell_8 : decode cL_cell 8 = .ok (.iaload, 1) := by decide +kernel
theorem dL_cell_9 : decode cL_cell 9 = .ok (.goto 15, 3) := by decide +kernel
theorem dL_cell_12 : decode cL_cell 12 = .ok (.sipush 7919, 3) := by decide +kernel
theorem dL_cell_15 : decode cL_cell 15 = .ok (.iload_n 1, 1) := by decide +kernel
theorem dL_cell_16 : decode cL_cell 16 = .ok (.iconst 3, 1) := by decide +kernel
theorem dL_cell_17 : decode cL_cell 17 = .ok (.iadd, 1) := by decide +kernel
theorem dL_cell_18 : decode cL_cell 18 = .ok (.imul, 1) := by decide +kernel
theorem dL_cell_19 : decode cL_cell 19 = .ok (.iload_n 1, 1) := by decide +kernel
theorem dL_cell_20 : decode cL_cell 20 = .ok (.bipush 11, 2) := by decide +kernel
theorem dL_cell_22 : decode cL_cell 22 = .ok (.iadd, 1) := by decide +kernel
theorem dL_cell_23 : decode cL_cell 23 = .ok (.imul, 1) := by decide +kernel
theorem dL_cell_24 : decode cL_cell 24 = .ok (.ireturn, 1) := by decide +kernel
theorem dL_low_0 : decode cL_low 0 = .ok (.iload_n 0, 1) := by decide +kernel
theorem dL_low_1 : decode cL_low 1 = .ok (.ldc 7, 2) := by decide +kernel
theorem dL_low_3 : decode cL_low 3 = .ok (.iand, 1) := by decide +kernel
theorem dL_low_4 : decode cL_low 4 = .ok (.iload_n 1, 1) := by decide +kernel
theorem dL_low_5 : decode cL_low 5 = .ok (.irem, 1) := by decide +kernel
theorem dL_low_6 : decode cL_low 6 = .ok (.ireturn, 1) := by decide +kernel
set_option maxRecDepth 20000 in
theorem ggL_does_X5_count : GoodIn wsL_does wsX5_count := goodIn_r _ [6, 7, 8, 9, 10, 11, 12, 13, 14, 15, 16, 17, 18, 19, 20, 21, 22, 23, 24, 25, 26, 27, 28, 29, 30, 31, 32, 33, 34, 35, 36, 37, 38, 39, 40, 41, 42, 43, 44, 45, 46, 47, 48, 49, 50, 51, 52, 53, 54, 55, 56, 57, 58, 59, 223, 224, 225, 226, 227, 228, 229, 230, 231, 232, 233, 234, 235, 236, 237, 238, 239, 240, 241, 242, 243, 244, 245, 246, 247, 248, 249, 250, 251] (by decide +kernel) (by decide +kernel)
set_option maxRecDepth 20000 in
theorem gL_does_X5_count : GoodIn wsL_does (wsV RL 8 RX5 yX5_count wsX5_count) := goodIn_app (goodIn_of _ (by decide +kernel)) ggL_does_X5_count
set_option maxRecDepth 20000 in
theorem ggL_does_L_low : GoodIn wsL_does wsL_low := goodIn_r _ [63, 64] (by decide +kernel) (by decide +kernel)
set_option maxRecDepth 20000 in
theorem gL_does_L_low : GoodIn wsL_does (va_wsS RL 14 yL_low wsL_low) := goodIn_app (goodIn_of _ (by decide +kernel)) ggL_does_L_low
set_option maxRecDepth 20000 in
theorem ggL_does_X5_hang : GoodIn wsL_does wsX5_hang := goodIn_r _ [68, 15, 7, 69, 70, 71, 72, 73, 74, 75, 76, 77, 78, 20, 79, 29, 80, 81, 82, 83, 54, 22, 23, 53, 84, 85, 86, 87, 88, 33, 89, 90, 91, 92, 93, 35, 94, 95, 96, 97, 98, 99, 100, 101, 5, 102, 103, 104, 105, 106, 107, 108, 109, 110, 111, 112, 113, 114, 115, 116, 117, 118, 223, 224, 225, 226, 227, 228, 229, 242, 243, 230, 231, 232, 233, 234, 235, 236, 244, 245, 246, 247, 248, 249, 250, 251] (by decide +kernel) (by decide +kernel)
set_option maxRecDepth 20000 in
theorem gL_does_X5_hang : GoodIn wsL_does (wsV RL 20 RX5 yX5_hang wsX5_hang) := goodIn_app (goodIn_of _ (by decide +kernel)) ggL_does_X5_hang
set_option maxRecDepth 20000 in
theorem ggL_does_X5_ladder : GoodIn wsL_does wsX5_ladder := goodIn_r _ [122, 15, 7, 69, 70, 71, 72, 73, 74, 75, 76, 77, 78, 20, 79, 29, 80, 81, 82, 83, 54, 22, 23, 53, 84, 85, 86, 87, 88, 33, 89, 90, 91, 92, 93, 35, 94, 95, 96, 123, 124, 125, 126, 101, 5, 102, 107, 108, 109, 110, 111, 112, 113, 114, 115, 116, 117, 118, 223, 224, 225, 226, 227, 228, 229, 242, 243, 230, 231, 232, 233, 234, 235, 236, 244, 245, 246, 247, 248, 249, 250, 251] (by decide +kernel) (by decide +kernel)
set_option maxRecDepth 20000 in
theorem gL_does_X5_ladder : GoodIn wsL_does (wsV RL 24 RX5 yX5_ladder wsX5_ladder) := goodIn_app (goodIn_of _ (by decide +kernel)) ggL_does_X5_ladder
set_option maxRecDepth 20000 in
theorem ggL_does_X5_screw : GoodIn wsL_does wsX5_screw := goodIn_r _ [130, 15, 7, 69, 70, 71, 72, 73, 74, 75, 76, 77, 78, 20, 79, 29, 80, 81, 82, 83, 54, 22, 23, 53, 84, 85, 86, 87, 88, 33, 89, 90, 91, 92, 93, 35, 94, 95, 96, 131, 132, 133, 134, 135, 136, 137, 138, 139, 101, 5, 102, 107, 108, 109, 110, 111, 112, 113, 114, 115, 116, 117, 118, 223, 224, 225, 226, 227, 228, 229, 242, 243, 230, 231, 232, 233, 234, 235, 236, 244, 245, 246, 247, 248, 249, 250, 251] (by decide +kernel) (by decide +kernel)
set_option maxRecDepth 20000 in
theorem gL_does_X5_screw : GoodIn wsL_does (wsV RL 27 RX5 yX5_screw wsX5_screw) := goodIn_app (goodIn_of _ (by decide +kernel)) ggL_does_X5_screw
set_option maxRecDepth 20000 in
theorem ggL_does_X5_set : GoodIn wsL_does wsX5_set := goodIn_r _ [143, 15, 7, 69, 70, 71, 72, 73, 74, 75, 76, 77, 78, 20, 79, 29, 80, 81, 82, 83, 54, 22, 23, 53, 84, 85, 86, 87, 88, 33, 89, 90, 91, 92, 93, 35, 94, 95, 96, 144, 145, 146, 147, 101, 5, 102, 107, 108, 109, 110, 111, 112, 113, 114, 115, 116, 117, 118, 223, 224, 225, 226, 227, 228, 229, 242, 243, 230, 231, 232, 233, 234, 235, 236, 244, 245, 246, 247, 248, 249, 250, 251] (by decide +kernel) (by decide +kernel)
set_option maxRecDepth 20000 in
theorem gL_does_X5_set : GoodIn wsL_does (wsV RL 30 RX5 yX5_set wsX5_set) := goodIn_app (goodIn_of _ (by decide +kernel)) ggL_does_X5_set
set_option maxRecDepth 20000 in
theorem ggL_does_X5_change : GoodIn wsL_does wsX5_change := goodIn_r _ [151, 15, 7, 69, 70, 71, 72, 73, 74, 75, 76, 77, 78, 20, 79, 29, 80, 81, 82, 83, 54, 22, 23, 53, 84, 85, 86, 87, 88, 33, 89, 90, 91, 92, 93, 35, 94, 95, 96, 152, 153, 154, 155, 24, 156, 157, 158, 159, 160, 107, 108, 109, 5, 110, 111, 112, 113, 114, 115, 116, 117, 118, 223, 224, 225, 226, 227, 228, 229, 242, 243, 230, 231, 232, 233, 234, 235, 236, 244, 245, 246, 247, 248, 249, 250, 251] (by decide +kernel) (by decide +kernel)
set_option maxRecDepth 20000 in
theorem gL_does_X5_change : GoodIn wsL_does (wsV RL 33 RX5 yX5_change wsX5_change) := goodIn_app (goodIn_of _ (by decide +kernel)) ggL_does_X5_change
set_option maxRecDepth 20000 in
theorem ggL_does_X5_round : GoodIn wsL_does wsX5_round := goodIn_r _ [164, 15, 7, 165, 166, 167, 168, 5, 169, 9, 170, 171, 172, 173, 174, 175, 176, 177, 178, 179, 180, 181, 69, 70, 71, 72, 73, 74, 75, 76, 77, 78, 20, 79, 29, 80, 81, 82, 83, 54, 22, 23, 53, 84, 85, 86, 87, 88, 33, 89, 90, 91, 92, 93, 35, 94, 95, 96, 182, 183, 184, 185, 186, 187, 188, 189, 190, 191, 192, 37, 38, 39, 193, 194, 195, 196, 136, 137, 138, 139, 49, 50, 51, 52, 48, 44, 45, 46, 47, 197, 198, 199, 200, 201, 31, 32, 34, 36, 202, 203, 204, 205, 206, 207, 208, 209, 107, 108, 109, 110, 111, 112, 113, 114, 115, 116, 117, 118, 223, 224, 225, 226, 227, 228, 229, 230, 231, 232, 233, 234, 235, 236, 252, 253, 242, 243, 244, 245, 246, 247, 248, 249, 250, 251] (by decide +kernel) (by decide +kernel)
set_option maxRecDepth 20000 in
theorem gL_does_X5_round : GoodIn wsL_does (wsV RL 37 RX5 yX5_round wsX5_round) := goodIn_app (goodIn_of _ (by decide +kernel)) ggL_does_X5_round
set_option maxRecDepth 20000 in
theorem ggL_does_X5_pass : GoodIn wsL_does wsX5_pass := goodIn_r _ [213, 15, 7, 69, 70, 71, 72, 73, 74, 75, 76, 77, 78, 20, 79, 29, 80, 81, 82, 83, 54, 22, 23, 53, 84, 85, 86, 87, 88, 33, 89, 90, 91, 92, 93, 35, 94, 95, 96, 214, 215, 216, 217, 101, 5, 102, 218, 219, 220, 221, 222, 206, 207, 208, 209, 157, 158, 159, 160, 24, 107, 108, 109, 110, 111, 112, 113, 114, 115, 116, 117, 118, 223, 224, 225, 226, 227, 228, 229, 242, 243, 230, 231, 232, 233, 234, 235, 236, 244, 245, 246, 247, 248, 249, 250, 251] (by decide +kernel) (by decide +kernel)
set_option maxRecDepth 20000 in
theorem gL_does_X5_pass : GoodIn wsL_does (wsV RL 40 RX5 yX5_pass wsX5_pass) := goodIn_app (goodIn_of _ (by decide +kernel)) ggL_does_X5_pass
theorem dL_does_0 : decode cL_does 0 = .ok (.aload_n 0, 1) := by decide +kernel
theorem dL_does_1 : decode cL_does 1 = .ok (.iconst 1, 1) := by decide +kernel
theorem dL_does_2 : decode cL_does 2 = .ok (.invokevirtual 8, 3) := by decide +kernel
theorem dL_does_5 : decode cL_does 5 = .ok (.istore_n 2, 1) := by decide +kernel
theorem dL_does_6 : decode cL_does 6 = .ok (.iload_n 1, 1) := by decide +kernel
theorem dL_does_7 : decode cL_does 7 = .ok (.bipush 15, 2) := by decide +kernel
theorem dL_does_9 : decode cL_does 9 = .ok (.iand, 1) := by decide +kernel
theorem dL_does_10 : decode cL_does 10 = .ok (.tableswitch 208 0 10 #[58, 58, 58, 105, 120, 152, 187, 187, 197, 197, 197], 58) := by decide +kernel
theorem dL_does_68 : decode cL_does 68 = .ok (.aload_n 0, 1) := by decide +kernel
theorem dL_does_69 : decode cL_does 69 = .ok (.iload_n 1, 1) := by decide +kernel
theorem dL_does_70 : decode cL_does 70 = .ok (.iconst 4, 1) := by decide +kernel
theorem dL_does_71 : decode cL_does 71 = .ok (.ishr, 1) := by decide +kernel
theorem dL_does_72 : decode cL_does 72 = .ok (.bipush 100, 2) := by decide +kernel
theorem dL_does_74 : decode cL_does 74 = .ok (.invokestatic 14, 3) := by decide +kernel
theorem dL_does_77 : decode cL_does 77 = .ok (.iload_n 1, 1) := by decide +kernel
theorem dL_does_78 : decode cL_does 78 = .ok (.bipush 11, 2) := by decide +kernel
theorem dL_does_80 : decode cL_does 80 = .ok (.ishr, 1) := by decide +kernel
theorem dL_does_81 : decode cL_does 81 = .ok (.iconst 1, 1) := by decide +kernel
theorem dL_does_82 : decode cL_does 82 = .ok (.iand, 1) := by decide +kernel
theorem dL_does_83 : decode cL_does 83 = .ok (.ifCond .ne 7, 3) := by decide +kernel
theorem dL_does_86 : decode cL_does 86 = .ok (.iconst 0, 1) := by decide +kernel
theorem dL_does_87 : decode cL_does 87 = .ok (.goto 12, 3) := by decide +kernel
theorem dL_does_90 : decode cL_does 90 = .ok (.iload_n 1, 1) := by decide +kernel
theorem dL_does_91 : decode cL_does 91 = .ok (.bipush 12, 2) := by decide +kernel
theorem dL_does_93 : decode cL_does 93 = .ok (.ishr, 1) := by decide +kernel
theorem dL_does_94 : decode cL_does 94 = .ok (.bipush 31, 2) := by decide +kernel
theorem dL_does_96 : decode cL_does 96 = .ok (.invokestatic 14, 3) := by decide +kernel
theorem dL_does_99 : decode cL_does 99 = .ok (.iload_n 1, 1) := by decide +kernel
theorem dL_does_100 : decode cL_does 100 = .ok (.iconst 5, 1) := by decide +kernel
theorem dL_does_101 : decode cL_does 101 = .ok (.ishr, 1) := by decide +kernel
theorem dL_does_102 : decode cL_does 102 = .ok (.sipush 199, 3) := by decide +kernel
theorem dL_does_105 : decode cL_does 105 = .ok (.invokestatic 14, 3) := by decide +kernel
theorem dL_does_108 : decode cL_does 108 = .ok (.bipush 99, 2) := by decide +kernel
theorem dL_does_110 : decode cL_does 110 = .ok (.isub, 1) := by decide +kernel
theorem dL_does_111 : decode cL_does 111 = .ok (.invokevirtual 20, 3) := by decide +kernel
theorem dL_does_114 : decode cL_does 114 = .ok (.ireturn, 1) := by decide +kernel
theorem dL_does_115 : decode cL_does 115 = .ok (.aload_n 0, 1) := by decide +kernel
theorem dL_does_116 : decode cL_does 116 = .ok (.iconst 1, 1) := by decide +kernel
theorem dL_does_117 : decode cL_does 117 = .ok (.iload_n 1, 1) := by decide +kernel
theorem dL_does_118 : decode cL_does 118 = .ok (.iconst 4, 1) := by decide +kernel
theorem dL_does_119 : decode cL_does 119 = .ok (.ishr, 1) := by decide +kernel
theorem dL_does_120 : decode cL_does 120 = .ok (.bipush 30, 2) := by decide +kernel
theorem dL_does_122 : decode cL_does 122 = .ok (.invokestatic 14, 3) := by decide +kernel
theorem dL_does_125 : decode cL_does 125 = .ok (.iadd, 1) := by decide +kernel
theorem dL_does_126 : decode cL_does 126 = .ok (.invokevirtual 24, 3) := by decide +kernel
theorem dL_does_129 : decode cL_does 129 = .ok (.ireturn, 1) := by decide +kernel
theorem dL_does_130 : decode cL_does 130 = .ok (.iload_n 2, 1) := by decide +kernel
theorem dL_does_131 : decode cL_does 131 = .ok (.ifCond .ne 7, 3) := by decide +kernel
theorem dL_does_134 : decode cL_does 134 = .ok (.iconst 0, 1) := by decide +kernel
theorem dL_does_135 : decode cL_does 135 = .ok (.goto 26, 3) := by decide +kernel
theorem dL_does_138 : decode cL_does 138 = .ok (.aload_n 0, 1) := by decide +kernel
theorem dL_does_139 : decode cL_does 139 = .ok (.iload_n 1, 1) := by decide +kernel
theorem dL_does_140 : decode cL_does 140 = .ok (.iconst 4, 1) := by decide +kernel
theorem dL_does_141 : decode cL_does 141 = .ok (.ishr, 1) := by decide +kernel
theorem dL_does_142 : decode cL_does 142 = .ok (.iload_n 2, 1) := by decide +kernel
theorem dL_does_143 : decode cL_does 143 = .ok (.invokestatic 14, 3) := by decide +kernel
theorem dL_does_146 : decode cL_does 146 = .ok (.iload_n 1, 1) := by decide +kernel
theorem dL_does_147 : decode cL_does 147 = .ok (.bipush 8, 2) := by decide +kernel
theorem dL_does_149 : decode cL_does 149 = .ok (.ishr, 1) := by decide +kernel
theorem dL_does_150 : decode cL_does 150 = .ok (.bipush 41, 2) := by decide +kernel
theorem dL_does_152 : decode cL_does 152 = .ok (.invokestatic 14, 3) := by decide +kernel
theorem dL_does_155 : decode cL_does 155 = .ok (.bipush 20, 2) := by decide +kernel
theorem dL_does_157 : decode cL_does 157 = .ok (.isub, 1) := by decide +kernel
theorem dL_does_158 : decode cL_does 158 = .ok (.invokevirtual 27, 3) := by decide +kernel
theorem dL_does_161 : decode cL_does 161 = .ok (.ireturn, 1) := by decide +kernel
theorem dL_does_162 : decode cL_does 162 = .ok (.iload_n 1, 1) := by decide +kernel
theorem dL_does_163 : decode cL_does 163 = .ok (.iconst 4, 1) := by decide +kernel
theorem dL_does_164 : decode cL_does 164 = .ok (.ishr, 1) := by decide +kernel
theorem dL_does_165 : decode cL_does 165 = .ok (.iconst 4, 1) := by decide +kernel
theorem dL_does_166 : decode cL_does 166 = .ok (.invokestatic 14, 3) := by decide +kernel
theorem dL_does_169 : decode cL_does 169 = .ok (.istore_n 3, 1) := by decide +kernel
theorem dL_does_170 : decode cL_does 170 = .ok (.aload_n 0, 1) := by decide +kernel
theorem dL_does_171 : decode cL_does 171 = .ok (.iload_n 3, 1) := by decide +kernel
theorem dL_does_172 : decode cL_does 172 = .ok (.iconst 1, 1) := by decide +kernel
theorem dL_does_173 : decode cL_does 173 = .ok (.iload_n 1, 1) := by decide +kernel
theorem dL_does_174 : decode cL_does 174 = .ok (.bipush 6, 2) := by decide +kernel
theorem dL_does_176 : decode cL_does 176 = .ok (.ishr, 1) := by decide +kernel
theorem dL_does_177 : decode cL_does 177 = .ok (.iload_n 3, 1) := by decide +kernel
theorem dL_does_178 : decode cL_does 178 = .ok (.ifCond .ne 9, 3) := by decide +kernel
theorem dL_does_181 : decode cL_does 181 = .ok (.sipush 200, 3) := by decide +kernel
theorem dL_does_184 : decode cL_does 184 = .ok (.goto 5, 3) := by decide +kernel
theorem dL_does_187 : decode cL_does 187 = .ok (.bipush 30, 2) := by decide +kernel
theorem dL_does_189 : decode cL_does 189 = .ok (.invokestatic 14, 3) := by decide +kernel
theorem dL_does_192 : decode cL_does 192 = .ok (.iadd, 1) := by decide +kernel
theorem dL_does_193 : decode cL_does 193 = .ok (.invokevirtual 30, 3) := by decide +kernel
theorem dL_does_196 : decode cL_does 196 = .ok (.ireturn, 1) := by decide +kernel
theorem dL_does_197 : decode cL_does 197 = .ok (.aload_n 0, 1) := by decide +kernel
theorem dL_does_198 : decode cL_does 198 = .ok (.iload_n 1, 1) := by decide +kernel
theorem dL_does_199 : decode cL_does 199 = .ok (.iconst 4, 1) := by decide +kernel
theorem dL_does_200 : decode cL_does 200 = .ok (.ishr, 1) := by decide +kernel
theorem dL_does_201 : decode cL_does 201 = .ok (.iconst 1, 1) := by decide +kernel
theorem dL_does_202 : decode cL_does 202 = .ok (.iand, 1) := by decide +kernel
theorem dL_does_203 : decode cL_does 203 = .ok (.invokevirtual 33, 3) := by decide +kernel
theorem dL_does_206 : decode cL_does 206 = .ok (.ireturn, 1) := by decide +kernel
theorem dL_does_207 : decode cL_does 207 = .ok (.aload_n 0, 1) := by decide +kernel
theorem dL_does_208 : decode cL_does 208 = .ok (.iload_n 1, 1) := by decide +kernel
theorem dL_does_209 : decode cL_does 209 = .ok (.iconst 4, 1) := by decide +kernel
theorem dL_does_210 : decode cL_does 210 = .ok (.ishr, 1) := by decide +kernel
theorem dL_does_211 : decode cL_does 211 = .ok (.ldc 36, 2) := by decide +kernel
theorem dL_does_213 : decode cL_does 213 = .ok (.iand, 1) := by decide +kernel
theorem dL_does_214 : decode cL_does 214 = .ok (.invokevirtual 37, 3) := by decide +kernel
theorem dL_does_217 : decode cL_does 217 = .ok (.ireturn, 1) := by decide +kernel
theorem dL_does_218 : decode cL_does 218 = .ok (.aload_n 0, 1) := by decide +kernel
theorem dL_does_219 : decode cL_does 219 = .ok (.iconst 1, 1) := by decide +kernel
theorem dL_does_220 : decode cL_does 220 = .ok (.iload_n 1, 1) := by decide +kernel
theorem dL_does_221 : decode cL_does 221 = .ok (.iconst 4, 1) := by decide +kernel
theorem dL_does_222 : decode cL_does 222 = .ok (.ishr, 1) := by decide +kernel
theorem dL_does_223 : decode cL_does 223 = .ok (.bipush 9, 2) := by decide +kernel
theorem dL_does_225 : decode cL_does 225 = .ok (.invokestatic 14, 3) := by decide +kernel
theorem dL_does_228 : decode cL_does 228 = .ok (.iadd, 1) := by decide +kernel
theorem dL_does_229 : decode cL_does 229 = .ok (.invokevirtual 40, 3) := by decide +kernel
theorem dL_does_232 : decode cL_does 232 = .ok (.ireturn, 1) := by decide +kernel
set_option maxRecDepth 20000 in
theorem ggL_off_X5_of : GoodIn wsL_off wsX5_of := goodIn_r _ [6, 7, 8, 9, 10, 11, 12, 13, 14, 15, 16, 17, 18, 19, 20, 21, 22, 23, 24, 25, 26, 27, 28, 29, 30, 31, 32, 33, 34, 35, 36, 37, 38, 39, 40, 41, 42, 43, 44, 45, 46, 47, 48, 49, 50, 51, 52, 53, 54, 55, 56, 57, 58, 59, 60, 61, 62, 63, 64, 65, 66, 67, 68] (by decide +kernel) (by decide +kernel)
set_option maxRecDepth 20000 in
theorem gL_off_X5_of : GoodIn wsL_off (wsV RL 43 RX5 yX5_of wsX5_of) := goodIn_app (goodIn_of _ (by decide +kernel)) ggL_off_X5_of
theorem dL_off_0 : decode cL_off 0 = .ok (.aload_n 0, 1) := by decide +kernel
theorem dL_off_1 : decode cL_off 1 = .ok (.iload_n 1, 1) := by decide +kernel
theorem dL_off_2 : decode cL_off 2 = .ok (.iconst 4, 1) := by decide +kernel
theorem dL_off_3 : decode cL_off 3 = .ok (.invokevirtual 43, 3) := by decide +kernel
theorem dL_off_6 : decode cL_off 6 = .ok (.ldc 46, 2) := by decide +kernel
theorem dL_off_8 : decode cL_off 8 = .ok (.isub, 1) := by decide +kernel
theorem dL_off_9 : decode cL_off 9 = .ok (.ireturn, 1) := by decide +kernel
set_option maxRecDepth 20000 in
theorem ggL_areClocksSo_X5_count : GoodIn wsL_areClocksSo wsX5_count := goodIn_r _ [6, 7, 8, 9, 10, 11, 12, 13, 14, 15, 16, 17, 18, 19, 20, 21, 22, 23, 24, 25, 26, 27, 28, 29, 30, 31, 32, 33, 34, 35, 36, 37, 38, 39, 40, 41, 42, 43, 44, 45, 46, 47, 48, 49, 50, 51, 52, 53, 54, 55, 56, 57, 58, 59, 95, 96, 97, 98, 99, 100, 101, 102, 103, 104, 105, 106, 107, 108, 109, 110, 111, 112, 113, 114, 115, 116, 117, 118, 119, 120, 121, 122, 123] (by decide +kernel) (by decide +kernel)
set_option maxRecDepth 20000 in
theorem gL_areClocksSo_X5_count : GoodIn wsL_areClocksSo (wsV RL 8 RX5 yX5_count wsX5_count) := goodIn_app (goodIn_of _ (by decide +kernel)) ggL_areClocksSo_X5_count
set_option maxRecDepth 20000 in
theorem ggL_areClocksSo_X5_of : GoodIn wsL_areClocksSo wsX5_of := goodIn_r _ [63, 7, 64, 65, 66, 67, 68, 69, 70, 71, 72, 12, 73, 74, 75, 76, 20, 77, 22, 78, 31, 32, 33, 34, 35, 36, 37, 38, 39, 79, 50, 51, 52, 48, 53, 54, 80, 45, 46, 47, 49, 95, 96, 97, 98, 99, 100, 101, 102, 103, 104, 105, 106, 107, 108, 116, 117, 118, 119, 120, 121, 122, 123] (by decide +kernel) (by decide +kernel)
set_option maxRecDepth 20000 in
theorem gL_areClocksSo_X5_of : GoodIn wsL_areClocksSo (wsV RL 43 RX5 yX5_of wsX5_of) := goodIn_app (goodIn_of _ (by decide +kernel)) ggL_areClocksSo_X5_of
set_option maxRecDepth 20000 in
theorem ggL_areClocksSo_X5_ofLadder : GoodIn wsL_areClocksSo wsX5_ofLadder := goodIn_r _ [84, 7, 85, 86, 87, 88, 20, 89, 53, 95, 96, 97, 98, 99, 100, 101, 102, 103, 104, 105, 106, 107, 108] (by decide +kernel) (by decide +kernel)
set_option maxRecDepth 20000 in
theorem gL_areClocksSo_X5_ofLadder : GoodIn wsL_areClocksSo (wsV RL 47 RX5 yX5_ofLadder wsX5_ofLadder) := goodIn_app (goodIn_of _ (by decide +kernel)) ggL_areClocksSo_X5_ofLadder
set_option maxRecDepth 20000 in
theorem ggL_areClocksSo_L_off : GoodIn wsL_areClocksSo wsL_off := goodIn_r _ [93, 94, 60, 61, 62, 5, 63, 7, 64, 65, 66, 67, 68, 69, 70, 71, 72, 12, 73, 74, 75, 76, 20, 77, 22, 78, 31, 32, 33, 34, 35, 36, 37, 38, 39, 79, 50, 51, 52, 48, 53, 54, 80, 45, 46, 47, 49, 95, 96, 97, 98, 99, 100, 101, 102, 103, 104, 105, 106, 107, 108, 116, 117, 118, 119, 120, 121, 122, 123] (by decide +kernel) (by decide +kernel)
set_option maxRecDepth 20000 in
theorem gL_areClocksSo_L_off : GoodIn wsL_areClocksSo (va_wsS RL 50 yL_off wsL_off) := goodIn_app (goodIn_of _ (by decide +kernel)) ggL_areClocksSo_L_off
theorem dL_areClocksSo_0 : decode cL_areClocksSo 0 = .ok (.iconst 0, 1) := by decide +kernel
theorem dL_areClocksSo_1 : decode cL_areClocksSo 1 = .ok (.istore_n 1, 1) := by decide +kernel
theorem dL_areClocksSo_2 : decode cL_areClocksSo 2 = .ok (.iconst 0, 1) := by decide +kernel
theorem dL_areClocksSo_3 : decode cL_areClocksSo 3 = .ok (.istore_n 2, 1) := by decide +kernel
theorem dL_areClocksSo_4 : decode cL_areClocksSo 4 = .ok (.iconst 0, 1) := by decide +kernel
theorem dL_areClocksSo_5 : decode cL_areClocksSo 5 = .ok (.istore_n 3, 1) := by decide +kernel
theorem dL_areClocksSo_6 : decode cL_areClocksSo 6 = .ok (.iconst 0, 1) := by decide +kernel
theorem dL_areClocksSo_7 : decode cL_areClocksSo 7 = .ok (.istore 4, 2) := by decide +kernel
theorem dL_areClocksSo_9 : decode cL_areClocksSo 9 = .ok (.aload_n 0, 1) := by decide +kernel
theorem dL_areClocksSo_10 : decode cL_areClocksSo 10 = .ok (.aload_n 0, 1) := by decide +kernel
theorem dL_areClocksSo_11 : decode cL_areClocksSo 11 = .ok (.iconst 1, 1) := by decide +kernel
theorem dL_areClocksSo_12 : decode cL_areClocksSo 12 = .ok (.invokevirtual 8, 3) := by decide +kernel
theorem dL_areClocksSo_15 : decode cL_areClocksSo 15 = .ok (.iconst 0, 1) := by decide +kernel
theorem dL_areClocksSo_16 : decode cL_areClocksSo 16 = .ok (.invokevirtual 43, 3) := by decide +kernel
theorem dL_areClocksSo_19 : decode cL_areClocksSo 19 = .ok (.iconst (-1), 1) := by decide +kernel
theorem dL_areClocksSo_20 : decode cL_areClocksSo 20 = .ok (.if_icmp .ne 20, 3) := by decide +kernel
theorem dL_areClocksSo_23 : decode cL_areClocksSo 23 = .ok (.aload_n 0, 1) := by decide +kernel
theorem dL_areClocksSo_24 : decode cL_areClocksSo 24 = .ok (.aload_n 0, 1) := by decide +kernel
theorem dL_areClocksSo_25 : decode cL_areClocksSo 25 = .ok (.iconst 2, 1) := by decide +kernel
theorem dL_areClocksSo_26 : decode cL_areClocksSo 26 = .ok (.invokevirtual 8, 3) := by decide +kernel
theorem dL_areClocksSo_29 : decode cL_areClocksSo 29 = .ok (.invokevirtual 47, 3) := by decide +kernel
theorem dL_areClocksSo_32 : decode cL_areClocksSo 32 = .ok (.iconst (-1), 1) := by decide +kernel
theorem dL_areClocksSo_33 : decode cL_areClocksSo 33 = .ok (.if_icmp .ne 7, 3) := by decide +kernel
theorem dL_areClocksSo_36 : decode cL_areClocksSo 36 = .ok (.iconst 1, 1) := by decide +kernel
theorem dL_areClocksSo_37 : decode cL_areClocksSo 37 = .ok (.goto 4, 3) := by decide +kernel
theorem dL_areClocksSo_40 : decode cL_areClocksSo 40 = .ok (.iconst 0, 1) := by decide +kernel
theorem dL_areClocksSo_41 : decode cL_areClocksSo 41 = .ok (.istore 5, 2) := by decide +kernel
theorem dL_areClocksSo_43 : decode cL_areClocksSo 43 = .ok (.iconst 0, 1) := by decide +kernel
theorem dL_areClocksSo_44 : decode cL_areClocksSo 44 = .ok (.istore 6, 2) := by decide +kernel
theorem dL_areClocksSo_46 : decode cL_areClocksSo 46 = .ok (.iload 6, 2) := by decide +kernel
theorem dL_areClocksSo_48 : decode cL_areClocksSo 48 = .ok (.aload_n 0, 1) := by decide +kernel
theorem dL_areClocksSo_49 : decode cL_areClocksSo 49 = .ok (.iconst 1, 1) := by decide +kernel
theorem dL_areClocksSo_50 : decode cL_areClocksSo 50 = .ok (.invokevirtual 8, 3) := by decide +kernel
theorem dL_areClocksSo_53 : decode cL_areClocksSo 53 = .ok (.if_icmp .ge 336, 3) := by decide +kernel
theorem dL_areClocksSo_56 : decode cL_areClocksSo 56 = .ok (.aload_n 0, 1) := by decide +kernel
theorem dL_areClocksSo_57 : decode cL_areClocksSo 57 = .ok (.iload 6, 2) := by decide +kernel
theorem dL_areClocksSo_59 : decode cL_areClocksSo 59 = .ok (.iconst 1, 1) := by decide +kernel
theorem dL_areClocksSo_60 : decode cL_areClocksSo 60 = .ok (.invokevirtual 43, 3) := by decide +kernel
theorem dL_areClocksSo_63 : decode cL_areClocksSo 63 = .ok (.istore 7, 2) := by decide +kernel
theorem dL_areClocksSo_65 : decode cL_areClocksSo 65 = .ok (.bipush (-6), 2) := by decide +kernel
theorem dL_areClocksSo_67 : decode cL_areClocksSo 67 = .ok (.istore 8, 2) := by decide +kernel
theorem dL_areClocksSo_69 : decode cL_areClocksSo 69 = .ok (.iconst 0, 1) := by decide +kernel
theorem dL_areClocksSo_70 : decode cL_areClocksSo 70 = .ok (.istore 9, 2) := by decide +kernel
theorem dL_areClocksSo_72 : decode cL_areClocksSo 72 = .ok (.iload 9, 2) := by decide +kernel
theorem dL_areClocksSo_74 : decode cL_areClocksSo 74 = .ok (.aload_n 0, 1) := by decide +kernel
theorem dL_areClocksSo_75 : decode cL_areClocksSo 75 = .ok (.iconst 2, 1) := by decide +kernel
theorem dL_areClocksSo_76 : decode cL_areClocksSo 76 = .ok (.invokevirtual 8, 3) := by decide +kernel
theorem dL_areClocksSo_79 : decode cL_areClocksSo 79 = .ok (.if_icmp .ge 66, 3) := by decide +kernel
theorem dL_areClocksSo_82 : decode cL_areClocksSo 82 = .ok (.iload 7, 2) := by decide +kernel
theorem dL_areClocksSo_84 : decode cL_areClocksSo 84 = .ok (.ifCond .le 18, 3) := by decide +kernel
theorem dL_areClocksSo_87 : decode cL_areClocksSo 87 = .ok (.aload_n 0, 1) := by decide +kernel
theorem dL_areClocksSo_88 : decode cL_areClocksSo 88 = .ok (.iload 9, 2) := by decide +kernel
theorem dL_areClocksSo_90 : decode cL_areClocksSo 90 = .ok (.invokevirtual 47, 3) := by decide +kernel
theorem dL_areClocksSo_93 : decode cL_areClocksSo 93 = .ok (.iload 7, 2) := by decide +kernel
theorem dL_areClocksSo_95 : decode cL_areClocksSo 95 = .ok (.if_icmp .lt 7, 3) := by decide +kernel
theorem dL_areClocksSo_98 : decode cL_areClocksSo 98 = .ok (.iconst 1, 1) := by decide +kernel
theorem dL_areClocksSo_99 : decode cL_areClocksSo 99 = .ok (.goto 4, 3) := by decide +kernel
theorem dL_areClocksSo_102 : decode cL_areClocksSo 102 = .ok (.iconst 0, 1) := by decide +kernel
theorem dL_areClocksSo_103 : decode cL_areClocksSo 103 = .ok (.istore 10, 2) := by decide +kernel
theorem dL_areClocksSo_105 : decode cL_areClocksSo 105 = .ok (.iload 10, 2) := by decide +kernel
theorem dL_areClocksSo_107 : decode cL_areClocksSo 107 = .ok (.ifCond .eq 28, 3) := by decide +kernel
theorem dL_areClocksSo_110 : decode cL_areClocksSo 110 = .ok (.iload 8, 2) := by decide +kernel
theorem dL_areClocksSo_112 : decode cL_areClocksSo 112 = .ok (.ifCond .lt 18, 3) := by decide +kernel
theorem dL_areClocksSo_115 : decode cL_areClocksSo 115 = .ok (.aload_n 0, 1) := by decide +kernel
theorem dL_areClocksSo_116 : decode cL_areClocksSo 116 = .ok (.iload 9, 2) := by decide +kernel
theorem dL_areClocksSo_118 : decode cL_areClocksSo 118 = .ok (.invokevirtual 47, 3) := by decide +kernel
theorem dL_areClocksSo_121 : decode cL_areClocksSo 121 = .ok (.aload_n 0, 1) := by decide +kernel
theorem dL_areClocksSo_122 : decode cL_areClocksSo 122 = .ok (.iload 8, 2) := by decide +kernel
theorem dL_areClocksSo_124 : decode cL_areClocksSo 124 = .ok (.invokevirtual 47, 3) := by decide +kernel
theorem dL_areClocksSo_127 : decode cL_areClocksSo 127 = .ok (.if_icmp .ge 8, 3) := by decide +kernel
theorem dL_areClocksSo_130 : decode cL_areClocksSo 130 = .ok (.iload 9, 2) := by decide +kernel
theorem dL_areClocksSo_132 : decode cL_areClocksSo 132 = .ok (.goto 5, 3) := by decide +kernel
theorem dL_areClocksSo_135 : decode cL_areClocksSo 135 = .ok (.iload 8, 2) := by decide +kernel
theorem dL_areClocksSo_137 : decode cL_areClocksSo 137 = .ok (.istore 8, 2) := by decide +kernel
theorem dL_areClocksSo_139 : decode cL_areClocksSo 139 = .ok (.iinc 9 1, 3) := by decide +kernel
theorem dL_areClocksSo_142 : decode cL_areClocksSo 142 = .ok (.goto (-70), 3) := by decide +kernel
theorem dL_areClocksSo_145 : decode cL_areClocksSo 145 = .ok (.iload 7, 2) := by decide +kernel
theorem dL_areClocksSo_147 : decode cL_areClocksSo 147 = .ok (.ifCond .eq 8, 3) := by decide +kernel
theorem dL_areClocksSo_150 : decode cL_areClocksSo 150 = .ok (.iload 8, 2) := by decide +kernel
theorem dL_areClocksSo_152 : decode cL_areClocksSo 152 = .ok (.ifCond .lt 7, 3) := by decide +kernel
theorem dL_areClocksSo_155 : decode cL_areClocksSo 155 = .ok (.iconst 1, 1) := by decide +kernel
theorem dL_areClocksSo_156 : decode cL_areClocksSo 156 = .ok (.goto 4, 3) := by decide +kernel
theorem dL_areClocksSo_159 : decode cL_areClocksSo 159 = .ok (.iconst 0, 1) := by decide +kernel
theorem dL_areClocksSo_160 : decode cL_areClocksSo 160 = .ok (.istore 9, 2) := by decide +kernel
theorem dL_areClocksSo_162 : decode cL_areClocksSo 162 = .ok (.aload_n 0, 1) := by decide +kernel
theorem dL_areClocksSo_163 : decode cL_areClocksSo 163 = .ok (.iload 6, 2) := by decide +kernel
theorem dL_areClocksSo_165 : decode cL_areClocksSo 165 = .ok (.invokestatic 50, 3) := by decide +kernel
theorem dL_areClocksSo_168 : decode cL_areClocksSo 168 = .ok (.aload_n 0, 1) := by decide +kernel
theorem dL_areClocksSo_169 : decode cL_areClocksSo 169 = .ok (.bipush 8, 2) := by decide +kernel
theorem dL_areClocksSo_171 : decode cL_areClocksSo 171 = .ok (.invokevirtual 8, 3) := by decide +kernel
theorem dL_areClocksSo_174 : decode cL_areClocksSo 174 = .ok (.if_icmp .gt 19, 3) := by decide +kernel
theorem dL_areClocksSo_177 : decode cL_areClocksSo 177 = .ok (.aload_n 0, 1) := by decide +kernel
theorem dL_areClocksSo_178 : decode cL_areClocksSo 178 = .ok (.iload 6, 2) := by decide +kernel
theorem dL_areClocksSo_180 : decode cL_areClocksSo 180 = .ok (.invokestatic 50, 3) := by decide +kernel
theorem dL_areClocksSo_183 : decode cL_areClocksSo 183 = .ok (.aload_n 0, 1) := by decide +kernel
theorem dL_areClocksSo_184 : decode cL_areClocksSo 184 = .ok (.bipush 8, 2) := by decide +kernel
theorem dL_areClocksSo_186 : decode cL_areClocksSo 186 = .ok (.invokevirtual 8, 3) := by decide +kernel
theorem dL_areClocksSo_189 : decode cL_areClocksSo 189 = .ok (.ineg, 1) := by decide +kernel
theorem dL_areClocksSo_190 : decode cL_areClocksSo 190 = .ok (.if_icmp .ge 7, 3) := by decide +kernel
theorem dL_areClocksSo_193 : decode cL_areClocksSo 193 = .ok (.iconst 1, 1) := by decide +kernel
theorem dL_areClocksSo_194 : decode cL_areClocksSo 194 = .ok (.goto 4, 3) := by decide +kernel
theorem dL_areClocksSo_197 : decode cL_areClocksSo 197 = .ok (.iconst 0, 1) := by decide +kernel
theorem dL_areClocksSo_198 : decode cL_areClocksSo 198 = .ok (.istore 10, 2) := by decide +kernel
theorem dL_areClocksSo_200 : decode cL_areClocksSo 200 = .ok (.iload_n 1, 1) := by decide +kernel
theorem dL_areClocksSo_201 : decode cL_areClocksSo 201 = .ok (.aload_n 0, 1) := by decide +kernel
theorem dL_areClocksSo_202 : decode cL_areClocksSo 202 = .ok (.iload 6, 2) := by decide +kernel
theorem dL_areClocksSo_204 : decode cL_areClocksSo 204 = .ok (.bipush 6, 2) := by decide +kernel
theorem dL_areClocksSo_206 : decode cL_areClocksSo 206 = .ok (.invokevirtual 43, 3) := by decide +kernel
theorem dL_areClocksSo_209 : decode cL_areClocksSo 209 = .ok (.ifCond .ne 10, 3) := by decide +kernel
theorem dL_areClocksSo_212 : decode cL_areClocksSo 212 = .ok (.iconst 1, 1) := by decide +kernel
theorem dL_areClocksSo_213 : decode cL_areClocksSo 213 = .ok (.iload 6, 2) := by decide +kernel
theorem dL_areClocksSo_215 : decode cL_areClocksSo 215 = .ok (.ishl, 1) := by decide +kernel
theorem dL_areClocksSo_216 : decode cL_areClocksSo 216 = .ok (.goto 4, 3) := by decide +kernel
theorem dL_areClocksSo_219 : decode cL_areClocksSo 219 = .ok (.iconst 0, 1) := by decide +kernel
theorem dL_areClocksSo_220 : decode cL_areClocksSo 220 = .ok (.ior, 1) := by decide +kernel
theorem dL_areClocksSo_221 : decode cL_areClocksSo 221 = .ok (.istore_n 1, 1) := by decide +kernel
theorem dL_areClocksSo_222 : decode cL_areClocksSo 222 = .ok (.iload_n 2, 1) := by decide +kernel
theorem dL_areClocksSo_223 : decode cL_areClocksSo 223 = .ok (.iload 10, 2) := by decide +kernel
theorem dL_areClocksSo_225 : decode cL_areClocksSo 225 = .ok (.ifCond .eq 7, 3) := by decide +kernel
theorem dL_areClocksSo_228 : decode cL_areClocksSo 228 = .ok (.iconst 1, 1) := by decide +kernel
theorem dL_areClocksSo_229 : decode cL_areClocksSo 229 = .ok (.goto 4, 3) := by decide +kernel
theorem dL_areClocksSo_232 : decode cL_areClocksSo 232 = .ok (.iconst 0, 1) := by decide +kernel
theorem dL_areClocksSo_233 : decode cL_areClocksSo 233 = .ok (.iadd, 1) := by decide +kernel
theorem dL_areClocksSo_234 : decode cL_areClocksSo 234 = .ok (.istore_n 2, 1) := by decide +kernel
theorem dL_areClocksSo_235 : decode cL_areClocksSo 235 = .ok (.iload_n 3, 1) := by decide +kernel
theorem dL_areClocksSo_236 : decode cL_areClocksSo 236 = .ok (.iload 9, 2) := by decide +kernel
theorem dL_areClocksSo_238 : decode cL_areClocksSo 238 = .ok (.ifCond .eq 7, 3) := by decide +kernel
theorem dL_areClocksSo_241 : decode cL_areClocksSo 241 = .ok (.iconst 0, 1) := by decide +kernel
theorem dL_areClocksSo_242 : decode cL_areClocksSo 242 = .ok (.goto 4, 3) := by decide +kernel
theorem dL_areClocksSo_245 : decode cL_areClocksSo 245 = .ok (.iconst 1, 1) := by decide +kernel
theorem dL_areClocksSo_246 : decode cL_areClocksSo 246 = .ok (.iadd, 1) := by decide +kernel
theorem dL_areClocksSo_247 : decode cL_areClocksSo 247 = .ok (.istore_n 3, 1) := by decide +kernel
theorem dL_areClocksSo_248 : decode cL_areClocksSo 248 = .ok (.iload 4, 2) := by decide +kernel
theorem dL_areClocksSo_250 : decode cL_areClocksSo 250 = .ok (.aload_n 0, 1) := by decide +kernel
theorem dL_areClocksSo_251 : decode cL_areClocksSo 251 = .ok (.iload 6, 2) := by decide +kernel
theorem dL_areClocksSo_253 : decode cL_areClocksSo 253 = .ok (.bipush 10, 2) := by decide +kernel
theorem dL_areClocksSo_255 : decode cL_areClocksSo 255 = .ok (.invokevirtual 43, 3) := by decide +kernel
theorem dL_areClocksSo_258 : decode cL_areClocksSo 258 = .ok (.iadd, 1) := by decide +kernel
theorem dL_areClocksSo_259 : decode cL_areClocksSo 259 = .ok (.istore 4, 2) := by decide +kernel
theorem dL_areClocksSo_261 : decode cL_areClocksSo 261 = .ok (.iload 5, 2) := by decide +kernel
theorem dL_areClocksSo_263 : decode cL_areClocksSo 263 = .ok (.ifCond .eq 117, 3) := by decide +kernel
theorem dL_areClocksSo_266 : decode cL_areClocksSo 266 = .ok (.aload_n 0, 1) := by decide +kernel
theorem dL_areClocksSo_267 : decode cL_areClocksSo 267 = .ok (.iload 6, 2) := by decide +kernel
theorem dL_areClocksSo_269 : decode cL_areClocksSo 269 = .ok (.bipush 8, 2) := by decide +kernel
theorem dL_areClocksSo_271 : decode cL_areClocksSo 271 = .ok (.invokevirtual 43, 3) := by decide +kernel
theorem dL_areClocksSo_274 : decode cL_areClocksSo 274 = .ok (.iload 8, 2) := by decide +kernel
theorem dL_areClocksSo_276 : decode cL_areClocksSo 276 = .ok (.if_icmp .ne 104, 3) := by decide +kernel
theorem dL_areClocksSo_279 : decode cL_areClocksSo 279 = .ok (.aload_n 0, 1) := by decide +kernel
theorem dL_areClocksSo_280 : decode cL_areClocksSo 280 = .ok (.iload 6, 2) := by decide +kernel
theorem dL_areClocksSo_282 : decode cL_areClocksSo 282 = .ok (.bipush 9, 2) := by decide +kernel
theorem dL_areClocksSo_284 : decode cL_areClocksSo 284 = .ok (.invokevirtual 43, 3) := by decide +kernel
theorem dL_areClocksSo_287 : decode cL_areClocksSo 287 = .ok (.iconst 1, 1) := by decide +kernel
theorem dL_areClocksSo_288 : decode cL_areClocksSo 288 = .ok (.if_icmp .ne 7, 3) := by decide +kernel
theorem dL_areClocksSo_291 : decode cL_areClocksSo 291 = .ok (.iconst 1, 1) := by decide +kernel
theorem dL_areClocksSo_292 : decode cL_areClocksSo 292 = .ok (.goto 4, 3) := by decide +kernel
theorem dL_areClocksSo_295 : decode cL_areClocksSo 295 = .ok (.iconst 0, 1) := by decide +kernel
theorem dL_areClocksSo_296 : decode cL_areClocksSo 296 = .ok (.iload 9, 2) := by decide +kernel
theorem dL_areClocksSo_298 : decode cL_areClocksSo 298 = .ok (.if_icmp .ne 82, 3) := by decide +kernel
theorem dL_areClocksSo_301 : decode cL_areClocksSo 301 = .ok (.aload_n 0, 1) := by decide +kernel
theorem dL_areClocksSo_302 : decode cL_areClocksSo 302 = .ok (.iload 6, 2) := by decide +kernel
theorem dL_areClocksSo_304 : decode cL_areClocksSo 304 = .ok (.bipush 7, 2) := by decide +kernel
theorem dL_areClocksSo_306 : decode cL_areClocksSo 306 = .ok (.invokevirtual 43, 3) := by decide +kernel
theorem dL_areClocksSo_309 : decode cL_areClocksSo 309 = .ok (.iconst 1, 1) := by decide +kernel
theorem dL_areClocksSo_310 : decode cL_areClocksSo 310 = .ok (.if_icmp .ne 7, 3) := by decide +kernel
theorem dL_areClocksSo_313 : decode cL_areClocksSo 313 = .ok (.iconst 1, 1) := by decide +kernel
theorem dL_areClocksSo_314 : decode cL_areClocksSo 314 = .ok (.goto 4, 3) := by decide +kernel
theorem dL_areClocksSo_317 : decode cL_areClocksSo 317 = .ok (.iconst 0, 1) := by decide +kernel
theorem dL_areClocksSo_318 : decode cL_areClocksSo 318 = .ok (.iload 10, 2) := by decide +kernel
theorem dL_areClocksSo_320 : decode cL_areClocksSo 320 = .ok (.ifCond .ne 7, 3) := by decide +kernel
theorem dL_areClocksSo_323 : decode cL_areClocksSo 323 = .ok (.iconst 1, 1) := by decide +kernel
theorem dL_areClocksSo_324 : decode cL_areClocksSo 324 = .ok (.goto 4, 3) := by decide +kernel
theorem dL_areClocksSo_327 : decode cL_areClocksSo 327 = .ok (.iconst 0, 1) := by decide +kernel
theorem dL_areClocksSo_328 : decode cL_areClocksSo 328 = .ok (.if_icmp .ne 52, 3) := by decide +kernel
theorem dL_areClocksSo_331 : decode cL_areClocksSo 331 = .ok (.aload_n 0, 1) := by decide +kernel
theorem dL_areClocksSo_332 : decode cL_areClocksSo 332 = .ok (.iload 6, 2) := by decide +kernel
theorem dL_areClocksSo_334 : decode cL_areClocksSo 334 = .ok (.bipush 6, 2) := by decide +kernel
theorem dL_areClocksSo_336 : decode cL_areClocksSo 336 = .ok (.invokevirtual 43, 3) := by decide +kernel
theorem dL_areClocksSo_339 : decode cL_areClocksSo 339 = .ok (.iconst 1, 1) := by decide +kernel
theorem dL_areClocksSo_340 : decode cL_areClocksSo 340 = .ok (.if_icmp .eq 14, 3) := by decide +kernel
theorem dL_areClocksSo_343 : decode cL_areClocksSo 343 = .ok (.aload_n 0, 1) := by decide +kernel
theorem dL_areClocksSo_344 : decode cL_areClocksSo 344 = .ok (.iload 6, 2) := by decide +kernel
theorem dL_areClocksSo_346 : decode cL_areClocksSo 346 = .ok (.invokestatic 50, 3) := by decide +kernel
theorem dL_areClocksSo_349 : decode cL_areClocksSo 349 = .ok (.ldc 54, 2) := by decide +kernel
theorem dL_areClocksSo_351 : decode cL_areClocksSo 351 = .ok (.if_icmp .ne 29, 3) := by decide +kernel
theorem dL_areClocksSo_354 : decode cL_areClocksSo 354 = .ok (.aload_n 0, 1) := by decide +kernel
theorem dL_areClocksSo_355 : decode cL_areClocksSo 355 = .ok (.iload 6, 2) := by decide +kernel
theorem dL_areClocksSo_357 : decode cL_areClocksSo 357 = .ok (.iconst 3, 1) := by decide +kernel
theorem dL_areClocksSo_358 : decode cL_areClocksSo 358 = .ok (.invokevirtual 43, 3) := by decide +kernel
theorem dL_areClocksSo_361 : decode cL_areClocksSo 361 = .ok (.ifCond .lt 19, 3) := by decide +kernel
theorem dL_areClocksSo_364 : decode cL_areClocksSo 364 = .ok (.aload_n 0, 1) := by decide +kernel
theorem dL_areClocksSo_365 : decode cL_areClocksSo 365 = .ok (.iload 6, 2) := by decide +kernel
theorem dL_areClocksSo_367 : decode cL_areClocksSo 367 = .ok (.iconst 3, 1) := by decide +kernel
theorem dL_areClocksSo_368 : decode cL_areClocksSo 368 = .ok (.invokevirtual 43, 3) := by decide +kernel
theorem dL_areClocksSo_371 : decode cL_areClocksSo 371 = .ok (.bipush 40, 2) := by decide +kernel
theorem dL_areClocksSo_373 : decode cL_areClocksSo 373 = .ok (.if_icmp .gt 7, 3) := by decide +kernel
theorem dL_areClocksSo_376 : decode cL_areClocksSo 376 = .ok (.iconst 1, 1) := by decide +kernel
theorem dL_areClocksSo_377 : decode cL_areClocksSo 377 = .ok (.goto 4, 3) := by decide +kernel
theorem dL_areClocksSo_380 : decode cL_areClocksSo 380 = .ok (.iconst 0, 1) := by decide +kernel
theorem dL_areClocksSo_381 : decode cL_areClocksSo 381 = .ok (.istore 5, 2) := by decide +kernel
theorem dL_areClocksSo_383 : decode cL_areClocksSo 383 = .ok (.iinc 6 1, 3) := by decide +kernel
theorem dL_areClocksSo_386 : decode cL_areClocksSo 386 = .ok (.goto (-340), 3) := by decide +kernel
theorem dL_areClocksSo_389 : decode cL_areClocksSo 389 = .ok (.iload 5, 2) := by decide +kernel
theorem dL_areClocksSo_391 : decode cL_areClocksSo 391 = .ok (.ifCond .eq 45, 3) := by decide +kernel
theorem dL_areClocksSo_394 : decode cL_areClocksSo 394 = .ok (.iload_n 1, 1) := by decide +kernel
theorem dL_areClocksSo_395 : decode cL_areClocksSo 395 = .ok (.aload_n 0, 1) := by decide +kernel
theorem dL_areClocksSo_396 : decode cL_areClocksSo 396 = .ok (.iconst 3, 1) := by decide +kernel
theorem dL_areClocksSo_397 : decode cL_areClocksSo 397 = .ok (.invokevirtual 8, 3) := by decide +kernel
theorem dL_areClocksSo_400 : decode cL_areClocksSo 400 = .ok (.if_icmp .ne 36, 3) := by decide +kernel
theorem dL_areClocksSo_403 : decode cL_areClocksSo 403 = .ok (.iload_n 2, 1) := by decide +kernel
theorem dL_areClocksSo_404 : decode cL_areClocksSo 404 = .ok (.aload_n 0, 1) := by decide +kernel
theorem dL_areClocksSo_405 : decode cL_areClocksSo 405 = .ok (.iconst 4, 1) := by decide +kernel
theorem dL_areClocksSo_406 : decode cL_areClocksSo 406 = .ok (.invokevirtual 8, 3) := by decide +kernel
theorem dL_areClocksSo_409 : decode cL_areClocksSo 409 = .ok (.if_icmp .ne 27, 3) := by decide +kernel
theorem dL_areClocksSo_412 : decode cL_areClocksSo 412 = .ok (.iload_n 3, 1) := by decide +kernel
theorem dL_areClocksSo_413 : decode cL_areClocksSo 413 = .ok (.aload_n 0, 1) := by decide +kernel
theorem dL_areClocksSo_414 : decode cL_areClocksSo 414 = .ok (.iconst 5, 1) := by decide +kernel
theorem dL_areClocksSo_415 : decode cL_areClocksSo 415 = .ok (.invokevirtual 8, 3) := by decide +kernel
theorem dL_areClocksSo_418 : decode cL_areClocksSo 418 = .ok (.if_icmp .ne 18, 3) := by decide +kernel
theorem dL_areClocksSo_421 : decode cL_areClocksSo 421 = .ok (.iload 4, 2) := by decide +kernel
theorem dL_areClocksSo_423 : decode cL_areClocksSo 423 = .ok (.aload_n 0, 1) := by decide +kernel
theorem dL_areClocksSo_424 : decode cL_areClocksSo 424 = .ok (.bipush 7, 2) := by decide +kernel
theorem dL_areClocksSo_426 : decode cL_areClocksSo 426 = .ok (.invokevirtual 8, 3) := by decide +kernel
theorem dL_areClocksSo_429 : decode cL_areClocksSo 429 = .ok (.if_icmp .ne 7, 3) := by decide +kernel
theorem dL_areClocksSo_432 : decode cL_areClocksSo 432 = .ok (.iconst 1, 1) := by decide +kernel
theorem dL_areClocksSo_433 : decode cL_areClocksSo 433 = .ok (.goto 4, 3) := by decide +kernel
theorem dL_areClocksSo_436 : decode cL_areClocksSo 436 = .ok (.iconst 0, 1) := by decide +kernel
theorem dL_areClocksSo_437 : decode cL_areClocksSo 437 = .ok (.ireturn, 1) := by decide +kernel
set_option maxRecDepth 20000 in
theorem ggL_areNeedsSo_X5_count : GoodIn wsL_areNeedsSo wsX5_count := goodIn_r _ [5, 6, 7, 8, 9, 10, 11, 12, 13, 14, 15, 16, 17, 18, 19, 20, 21, 22, 23, 24, 25, 26, 27, 28, 29, 30, 31, 32, 33, 34, 35, 36, 37, 38, 39, 40, 41, 42, 43, 44, 45, 46, 47, 48, 49, 50, 51, 52, 53, 54, 55, 56, 57, 58, 182, 183, 184, 185, 186, 187, 188, 189, 190, 191, 192, 193, 194, 195, 196, 197, 198, 199, 200, 201, 202, 203, 204, 205, 206, 207, 208, 209, 210] (by decide +kernel) (by decide +kernel)
set_option maxRecDepth 20000 in
theorem gL_areNeedsSo_X5_count : GoodIn wsL_areNeedsSo (wsV RL 8 RX5 yX5_count wsX5_count) := goodIn_app (goodIn_of _ (by decide +kernel)) ggL_areNeedsSo_X5_count
set_option maxRecDepth 20000 in
theorem ggL_areNeedsSo_X5_needs : GoodIn wsL_areNeedsSo wsX5_needs := goodIn_r _ [62, 6, 8, 63, 64, 65, 66, 19, 67, 21, 68, 69, 70, 71, 22, 28, 72, 73, 74, 75, 76, 77, 78, 32, 79, 80, 81, 82, 37, 83, 34, 35, 36, 38, 84, 30, 31, 33, 85, 86, 87, 88, 89, 90, 91, 92, 93, 94, 182, 183, 184, 185, 186, 187, 188, 189, 190, 191, 192, 193, 194, 195, 203, 204, 205, 206, 207, 208, 209, 210] (by decide +kernel) (by decide +kernel)
set_option maxRecDepth 20000 in
theorem gL_areNeedsSo_X5_needs : GoodIn wsL_areNeedsSo (wsV RL 55 RX5 yX5_needs wsX5_needs) := goodIn_app (goodIn_of _ (by decide +kernel)) ggL_areNeedsSo_X5_needs
set_option maxRecDepth 20000 in
theorem ggL_areNeedsSo_X5_lasts : GoodIn wsL_areNeedsSo wsX5_lasts := goodIn_r _ [98, 6, 99, 73, 74, 19, 75, 21, 100, 69, 70, 71, 22, 28, 72, 76, 77, 78, 32, 79, 80, 81, 82, 37, 83, 34, 35, 36, 38, 84, 30, 31, 33, 85, 86, 87, 88, 89, 90, 182, 183, 184, 185, 186, 187, 188, 189, 190, 191, 192, 193, 194, 195, 203, 204, 205, 206, 207, 208, 209, 210] (by decide +kernel) (by decide +kernel)
set_option maxRecDepth 20000 in
theorem gL_areNeedsSo_X5_lasts : GoodIn wsL_areNeedsSo (wsV RL 58 RX5 yX5_lasts wsX5_lasts) := goodIn_app (goodIn_of _ (by decide +kernel)) ggL_areNeedsSo_X5_lasts
set_option maxRecDepth 20000 in
theorem ggL_areNeedsSo_X5_of : GoodIn wsL_areNeedsSo wsX5_of := goodIn_r _ [104, 6, 105, 106, 107, 108, 109, 110, 111, 112, 113, 11, 114, 99, 73, 74, 19, 75, 21, 115, 30, 31, 32, 33, 34, 35, 36, 37, 38, 116, 49, 50, 51, 47, 52, 53, 117, 44, 45, 46, 48, 182, 183, 184, 185, 186, 187, 188, 189, 190, 191, 192, 193, 194, 195, 203, 204, 205, 206, 207, 208, 209, 210] (by decide +kernel) (by decide +kernel)
set_option maxRecDepth 20000 in
theorem gL_areNeedsSo_X5_of : GoodIn wsL_areNeedsSo (wsV RL 43 RX5 yX5_of wsX5_of) := goodIn_app (goodIn_of _ (by decide +kernel)) ggL_areNeedsSo_X5_of
set_option maxRecDepth 20000 in
theorem ggL_areNeedsSo_X5_ladderFor : GoodIn wsL_areNeedsSo wsX5_ladderFor := goodIn_r _ [121, 6, 9, 122, 123, 124, 19, 125, 21, 22, 47, 126, 82, 37, 83, 43, 44, 45, 46, 48, 49, 50, 51, 52, 53, 182, 183, 184, 185, 186, 187, 188, 189, 190, 191, 192, 193, 194, 195, 203, 204, 205, 206, 207, 208, 209, 210] (by decide +kernel) (by decide +kernel)
set_option maxRecDepth 20000 in
theorem gL_areNeedsSo_X5_ladderFor : GoodIn wsL_areNeedsSo (wsV RL 61 RX5 yX5_ladderFor wsX5_ladderFor) := goodIn_app (goodIn_of _ (by decide +kernel)) ggL_areNeedsSo_X5_ladderFor
set_option maxRecDepth 20000 in
theorem ggL_areNeedsSo_X5_ladder : GoodIn wsL_areNeedsSo wsX5_ladder := goodIn_r _ [130, 14, 6, 131, 132, 133, 134, 135, 136, 137, 138, 139, 140, 19, 141, 28, 142, 143, 144, 145, 53, 21, 22, 52, 146, 147, 148, 149, 150, 32, 151, 152, 153, 89, 90, 34, 80, 154, 155, 156, 157, 158, 159, 160, 4, 161, 162, 163, 164, 165, 166, 167, 168, 169, 170, 171, 172, 173, 182, 183, 184, 185, 186, 187, 188, 201, 202, 189, 190, 191, 192, 193, 194, 195, 203, 204, 205, 206, 207, 208, 209, 210] (by decide +kernel) (by decide +kernel)
set_option maxRecDepth 20000 in
theorem gL_areNeedsSo_X5_ladder : GoodIn wsL_areNeedsSo (wsV RL 24 RX5 yX5_ladder wsX5_ladder) := goodIn_app (goodIn_of _ (by decide +kernel)) ggL_areNeedsSo_X5_ladder
set_option maxRecDepth 20000 in
theorem ggL_areNeedsSo_X5_undo : GoodIn wsL_areNeedsSo wsX5_undo := goodIn_r _ [177, 14, 6, 15, 178, 179, 180, 134, 181, 136, 137, 138, 139, 140, 19, 141, 28, 142, 143, 144, 145, 53, 21, 22, 52, 146, 147, 148, 149, 150, 32, 151, 152, 153, 89, 90, 34, 80, 154, 155, 182, 183, 184, 185, 186, 187, 188, 201, 202, 189, 190, 191, 192, 193, 194, 195, 203, 204, 205, 206, 207, 208, 209, 210] (by decide +kernel) (by decide +kernel)
set_option maxRecDepth 20000 in
theorem gL_areNeedsSo_X5_undo : GoodIn wsL_areNeedsSo (wsV RL 65 RX5 yX5_undo wsX5_undo) := goodIn_app (goodIn_of _ (by decide +kernel)) ggL_areNeedsSo_X5_undo
theorem dL_areNeedsSo_0 : decode cL_areNeedsSo 0 = .ok (.iconst 0, 1) := by decide +kernel
theorem dL_areNeedsSo_1 : decode cL_areNeedsSo 1 = .ok (.istore_n 1, 1) := by decide +kernel
theorem dL_areNeedsSo_2 : decode cL_areNeedsSo 2 = .ok (.iconst (-1), 1) := by decide +kernel
theorem dL_areNeedsSo_3 : decode cL_areNeedsSo 3 = .ok (.istore_n 2, 1) := by decide +kernel
theorem dL_areNeedsSo_4 : decode cL_areNeedsSo 4 = .ok (.aload_n 0, 1) := by decide +kernel
theorem dL_areNeedsSo_5 : decode cL_areNeedsSo 5 = .ok (.iconst 1, 1) := by decide +kernel
theorem dL_areNeedsSo_6 : decode cL_areNeedsSo 6 = .ok (.invokevirtual 8, 3) := by decide +kernel
theorem dL_areNeedsSo_9 : decode cL_areNeedsSo 9 = .ok (.istore_n 3, 1) := by decide +kernel
theorem dL_areNeedsSo_10 : decode cL_areNeedsSo 10 = .ok (.aload_n 0, 1) := by decide +kernel
theorem dL_areNeedsSo_11 : decode cL_areNeedsSo 11 = .ok (.iload_n 3, 1) := by decide +kernel
theorem dL_areNeedsSo_12 : decode cL_areNeedsSo 12 = .ok (.invokevirtual 55, 3) := by decide +kernel
theorem dL_areNeedsSo_15 : decode cL_areNeedsSo 15 = .ok (.iconst (-1), 1) := by decide +kernel
theorem dL_areNeedsSo_16 : decode cL_areNeedsSo 16 = .ok (.if_icmp .ne 7, 3) := by decide +kernel
theorem dL_areNeedsSo_19 : decode cL_areNeedsSo 19 = .ok (.iconst 1, 1) := by decide +kernel
theorem dL_areNeedsSo_20 : decode cL_areNeedsSo 20 = .ok (.goto 4, 3) := by decide +kernel
theorem dL_areNeedsSo_23 : decode cL_areNeedsSo 23 = .ok (.iconst 0, 1) := by decide +kernel
theorem dL_areNeedsSo_24 : decode cL_areNeedsSo 24 = .ok (.istore 4, 2) := by decide +kernel
theorem dL_areNeedsSo_26 : decode cL_areNeedsSo 26 = .ok (.iconst 0, 1) := by decide +kernel
theorem dL_areNeedsSo_27 : decode cL_areNeedsSo 27 = .ok (.istore 5, 2) := by decide +kernel
theorem dL_areNeedsSo_29 : decode cL_areNeedsSo 29 = .ok (.iload 5, 2) := by decide +kernel
theorem dL_areNeedsSo_31 : decode cL_areNeedsSo 31 = .ok (.iload_n 3, 1) := by decide +kernel
theorem dL_areNeedsSo_32 : decode cL_areNeedsSo 32 = .ok (.if_icmp .ge 103, 3) := by decide +kernel
theorem dL_areNeedsSo_35 : decode cL_areNeedsSo 35 = .ok (.aload_n 0, 1) := by decide +kernel
theorem dL_areNeedsSo_36 : decode cL_areNeedsSo 36 = .ok (.iload 5, 2) := by decide +kernel
theorem dL_areNeedsSo_38 : decode cL_areNeedsSo 38 = .ok (.invokevirtual 55, 3) := by decide +kernel
theorem dL_areNeedsSo_41 : decode cL_areNeedsSo 41 = .ok (.istore 6, 2) := by decide +kernel
theorem dL_areNeedsSo_43 : decode cL_areNeedsSo 43 = .ok (.bipush 16, 2) := by decide +kernel
theorem dL_areNeedsSo_45 : decode cL_areNeedsSo 45 = .ok (.aload_n 0, 1) := by decide +kernel
theorem dL_areNeedsSo_46 : decode cL_areNeedsSo 46 = .ok (.iload 6, 2) := by decide +kernel
theorem dL_areNeedsSo_48 : decode cL_areNeedsSo 48 = .ok (.invokevirtual 58, 3) := by decide +kernel
theorem dL_areNeedsSo_51 : decode cL_areNeedsSo 51 = .ok (.imul, 1) := by decide +kernel
theorem dL_areNeedsSo_52 : decode cL_areNeedsSo 52 = .ok (.iload 6, 2) := by decide +kernel
theorem dL_areNeedsSo_54 : decode cL_areNeedsSo 54 = .ok (.iadd, 1) := by decide +kernel
theorem dL_areNeedsSo_55 : decode cL_areNeedsSo 55 = .ok (.istore 7, 2) := by decide +kernel
theorem dL_areNeedsSo_57 : decode cL_areNeedsSo 57 = .ok (.iload_n 1, 1) := by decide +kernel
theorem dL_areNeedsSo_58 : decode cL_areNeedsSo 58 = .ok (.iconst 1, 1) := by decide +kernel
theorem dL_areNeedsSo_59 : decode cL_areNeedsSo 59 = .ok (.iload 6, 2) := by decide +kernel
theorem dL_areNeedsSo_61 : decode cL_areNeedsSo 61 = .ok (.ishl, 1) := by decide +kernel
theorem dL_areNeedsSo_62 : decode cL_areNeedsSo 62 = .ok (.ior, 1) := by decide +kernel
theorem dL_areNeedsSo_63 : decode cL_areNeedsSo 63 = .ok (.istore_n 1, 1) := by decide +kernel
theorem dL_areNeedsSo_64 : decode cL_areNeedsSo 64 = .ok (.iload 4, 2) := by decide +kernel
theorem dL_areNeedsSo_66 : decode cL_areNeedsSo 66 = .ok (.ifCond .eq 57, 3) := by decide +kernel
theorem dL_areNeedsSo_69 : decode cL_areNeedsSo 69 = .ok (.iload 7, 2) := by decide +kernel
theorem dL_areNeedsSo_71 : decode cL_areNeedsSo 71 = .ok (.iload_n 2, 1) := by decide +kernel
theorem dL_areNeedsSo_72 : decode cL_areNeedsSo 72 = .ok (.if_icmp .le 51, 3) := by decide +kernel
theorem dL_areNeedsSo_75 : decode cL_areNeedsSo 75 = .ok (.aload_n 0, 1) := by decide +kernel
theorem dL_areNeedsSo_76 : decode cL_areNeedsSo 76 = .ok (.iload 6, 2) := by decide +kernel
theorem dL_areNeedsSo_78 : decode cL_areNeedsSo 78 = .ok (.invokevirtual 58, 3) := by decide +kernel
theorem dL_areNeedsSo_81 : decode cL_areNeedsSo 81 = .ok (.ifCond .ne 7, 3) := by decide +kernel
theorem dL_areNeedsSo_84 : decode cL_areNeedsSo 84 = .ok (.iconst 1, 1) := by decide +kernel
theorem dL_areNeedsSo_85 : decode cL_areNeedsSo 85 = .ok (.goto 4, 3) := by decide +kernel
theorem dL_areNeedsSo_88 : decode cL_areNeedsSo 88 = .ok (.iconst 0, 1) := by decide +kernel
theorem dL_areNeedsSo_89 : decode cL_areNeedsSo 89 = .ok (.aload_n 0, 1) := by decide +kernel
theorem dL_areNeedsSo_90 : decode cL_areNeedsSo 90 = .ok (.iload 6, 2) := by decide +kernel
theorem dL_areNeedsSo_92 : decode cL_areNeedsSo 92 = .ok (.bipush 7, 2) := by decide +kernel
theorem dL_areNeedsSo_94 : decode cL_areNeedsSo 94 = .ok (.invokevirtual 43, 3) := by decide +kernel
theorem dL_areNeedsSo_97 : decode cL_areNeedsSo 97 = .ok (.ifCond .ne 7, 3) := by decide +kernel
theorem dL_areNeedsSo_100 : decode cL_areNeedsSo 100 = .ok (.iconst 1, 1) := by decide +kernel
theorem dL_areNeedsSo_101 : decode cL_areNeedsSo 101 = .ok (.goto 4, 3) := by decide +kernel
theorem dL_areNeedsSo_104 : decode cL_areNeedsSo 104 = .ok (.iconst 0, 1) := by decide +kernel
theorem dL_areNeedsSo_105 : decode cL_areNeedsSo 105 = .ok (.if_icmp .ne 18, 3) := by decide +kernel
theorem dL_areNeedsSo_108 : decode cL_areNeedsSo 108 = .ok (.aload_n 0, 1) := by decide +kernel
theorem dL_areNeedsSo_109 : decode cL_areNeedsSo 109 = .ok (.iload 6, 2) := by decide +kernel
theorem dL_areNeedsSo_111 : decode cL_areNeedsSo 111 = .ok (.invokevirtual 58, 3) := by decide +kernel
theorem dL_areNeedsSo_114 : decode cL_areNeedsSo 114 = .ok (.bipush 31, 2) := by decide +kernel
theorem dL_areNeedsSo_116 : decode cL_areNeedsSo 116 = .ok (.if_icmp .gt 7, 3) := by decide +kernel
theorem dL_areNeedsSo_119 : decode cL_areNeedsSo 119 = .ok (.iconst 1, 1) := by decide +kernel
theorem dL_areNeedsSo_120 : decode cL_areNeedsSo 120 = .ok (.goto 4, 3) := by decide +kernel
theorem dL_areNeedsSo_123 : decode cL_areNeedsSo 123 = .ok (.iconst 0, 1) := by decide +kernel
theorem dL_areNeedsSo_124 : decode cL_areNeedsSo 124 = .ok (.istore 4, 2) := by decide +kernel
theorem dL_areNeedsSo_126 : decode cL_areNeedsSo 126 = .ok (.iload 7, 2) := by decide +kernel
theorem dL_areNeedsSo_128 : decode cL_areNeedsSo 128 = .ok (.istore_n 2, 1) := by decide +kernel
theorem dL_areNeedsSo_129 : decode cL_areNeedsSo 129 = .ok (.iinc 5 1, 3) := by decide +kernel
theorem dL_areNeedsSo_132 : decode cL_areNeedsSo 132 = .ok (.goto (-103), 3) := by decide +kernel
theorem dL_areNeedsSo_135 : decode cL_areNeedsSo 135 = .ok (.aload_n 0, 1) := by decide +kernel
theorem dL_areNeedsSo_136 : decode cL_areNeedsSo 136 = .ok (.invokevirtual 61, 3) := by decide +kernel
theorem dL_areNeedsSo_139 : decode cL_areNeedsSo 139 = .ok (.istore 5, 2) := by decide +kernel
theorem dL_areNeedsSo_141 : decode cL_areNeedsSo 141 = .ok (.iload 4, 2) := by decide +kernel
theorem dL_areNeedsSo_143 : decode cL_areNeedsSo 143 = .ok (.ifCond .eq 32, 3) := by decide +kernel
theorem dL_areNeedsSo_146 : decode cL_areNeedsSo 146 = .ok (.iload_n 1, 1) := by decide +kernel
theorem dL_areNeedsSo_147 : decode cL_areNeedsSo 147 = .ok (.iconst 1, 1) := by decide +kernel
theorem dL_areNeedsSo_148 : decode cL_areNeedsSo 148 = .ok (.iload_n 3, 1) := by decide +kernel
theorem dL_areNeedsSo_149 : decode cL_areNeedsSo 149 = .ok (.ishl, 1) := by decide +kernel
theorem dL_areNeedsSo_150 : decode cL_areNeedsSo 150 = .ok (.iconst 1, 1) := by decide +kernel
theorem dL_areNeedsSo_151 : decode cL_areNeedsSo 151 = .ok (.isub, 1) := by decide +kernel
theorem dL_areNeedsSo_152 : decode cL_areNeedsSo 152 = .ok (.if_icmp .ne 23, 3) := by decide +kernel
theorem dL_areNeedsSo_155 : decode cL_areNeedsSo 155 = .ok (.aload_n 0, 1) := by decide +kernel
theorem dL_areNeedsSo_156 : decode cL_areNeedsSo 156 = .ok (.iconst 2, 1) := by decide +kernel
theorem dL_areNeedsSo_157 : decode cL_areNeedsSo 157 = .ok (.invokevirtual 8, 3) := by decide +kernel
theorem dL_areNeedsSo_160 : decode cL_areNeedsSo 160 = .ok (.iconst 4, 1) := by decide +kernel
theorem dL_areNeedsSo_161 : decode cL_areNeedsSo 161 = .ok (.if_icmp .lt 10, 3) := by decide +kernel
theorem dL_areNeedsSo_164 : decode cL_areNeedsSo 164 = .ok (.iload 5, 2) := by decide +kernel
theorem dL_areNeedsSo_166 : decode cL_areNeedsSo 166 = .ok (.bipush (-4), 2) := by decide +kernel
theorem dL_areNeedsSo_168 : decode cL_areNeedsSo 168 = .ok (.if_icmp .ne 7, 3) := by decide +kernel
theorem dL_areNeedsSo_171 : decode cL_areNeedsSo 171 = .ok (.iconst 1, 1) := by decide +kernel
theorem dL_areNeedsSo_172 : decode cL_areNeedsSo 172 = .ok (.goto 4, 3) := by decide +kernel
theorem dL_areNeedsSo_175 : decode cL_areNeedsSo 175 = .ok (.iconst 0, 1) := by decide +kernel
theorem dL_areNeedsSo_176 : decode cL_areNeedsSo 176 = .ok (.istore 4, 2) := by decide +kernel
theorem dL_areNeedsSo_178 : decode cL_areNeedsSo 178 = .ok (.aload_n 0, 1) := by decide +kernel
theorem dL_areNeedsSo_179 : decode cL_areNeedsSo 179 = .ok (.iconst 2, 1) := by decide +kernel
theorem dL_areNeedsSo_180 : decode cL_areNeedsSo 180 = .ok (.invokevirtual 8, 3) := by decide +kernel
theorem dL_areNeedsSo_183 : decode cL_areNeedsSo 183 = .ok (.iconst 4, 1) := by decide +kernel
theorem dL_areNeedsSo_184 : decode cL_areNeedsSo 184 = .ok (.if_icmp .ge 138, 3) := by decide +kernel
theorem dL_areNeedsSo_187 : decode cL_areNeedsSo 187 = .ok (.iload 4, 2) := by decide +kernel
theorem dL_areNeedsSo_189 : decode cL_areNeedsSo 189 = .ok (.ifCond .eq 35, 3) := by decide +kernel
theorem dL_areNeedsSo_192 : decode cL_areNeedsSo 192 = .ok (.iload 5, 2) := by decide +kernel
theorem dL_areNeedsSo_194 : decode cL_areNeedsSo 194 = .ok (.bipush (-6), 2) := by decide +kernel
theorem dL_areNeedsSo_196 : decode cL_areNeedsSo 196 = .ok (.if_icmp .ne 7, 3) := by decide +kernel
theorem dL_areNeedsSo_199 : decode cL_areNeedsSo 199 = .ok (.iconst 1, 1) := by decide +kernel
theorem dL_areNeedsSo_200 : decode cL_areNeedsSo 200 = .ok (.goto 4, 3) := by decide +kernel
theorem dL_areNeedsSo_203 : decode cL_areNeedsSo 203 = .ok (.iconst 0, 1) := by decide +kernel
theorem dL_areNeedsSo_204 : decode cL_areNeedsSo 204 = .ok (.aload_n 0, 1) := by decide +kernel
theorem dL_areNeedsSo_205 : decode cL_areNeedsSo 205 = .ok (.iconst 5, 1) := by decide +kernel
theorem dL_areNeedsSo_206 : decode cL_areNeedsSo 206 = .ok (.invokevirtual 8, 3) := by decide +kernel
theorem dL_areNeedsSo_209 : decode cL_areNeedsSo 209 = .ok (.ifCond .ne 7, 3) := by decide +kernel
theorem dL_areNeedsSo_212 : decode cL_areNeedsSo 212 = .ok (.iconst 1, 1) := by decide +kernel
theorem dL_areNeedsSo_213 : decode cL_areNeedsSo 213 = .ok (.goto 4, 3) := by decide +kernel
theorem dL_areNeedsSo_216 : decode cL_areNeedsSo 216 = .ok (.iconst 0, 1) := by decide +kernel
theorem dL_areNeedsSo_217 : decode cL_areNeedsSo 217 = .ok (.if_icmp .ne 7, 3) := by decide +kernel
theorem dL_areNeedsSo_220 : decode cL_areNeedsSo 220 = .ok (.iconst 1, 1) := by decide +kernel
theorem dL_areNeedsSo_221 : decode cL_areNeedsSo 221 = .ok (.goto 4, 3) := by decide +kernel
theorem dL_areNeedsSo_224 : decode cL_areNeedsSo 224 = .ok (.iconst 0, 1) := by decide +kernel
theorem dL_areNeedsSo_225 : decode cL_areNeedsSo 225 = .ok (.istore 4, 2) := by decide +kernel
theorem dL_areNeedsSo_227 : decode cL_areNeedsSo 227 = .ok (.iload 5, 2) := by decide +kernel
theorem dL_areNeedsSo_229 : decode cL_areNeedsSo 229 = .ok (.ifCond .le 93, 3) := by decide +kernel
theorem dL_areNeedsSo_232 : decode cL_areNeedsSo 232 = .ok (.iload 5, 2) := by decide +kernel
theorem dL_areNeedsSo_234 : decode cL_areNeedsSo 234 = .ok (.iconst 1, 1) := by decide +kernel
theorem dL_areNeedsSo_235 : decode cL_areNeedsSo 235 = .ok (.if_icmp .le 14, 3) := by decide +kernel
theorem dL_areNeedsSo_238 : decode cL_areNeedsSo 238 = .ok (.aload_n 0, 1) := by decide +kernel
theorem dL_areNeedsSo_239 : decode cL_areNeedsSo 239 = .ok (.iload 5, 2) := by decide +kernel
theorem dL_areNeedsSo_241 : decode cL_areNeedsSo 241 = .ok (.iconst 1, 1) := by decide +kernel
theorem dL_areNeedsSo_242 : decode cL_areNeedsSo 242 = .ok (.isub, 1) := by decide +kernel
theorem dL_areNeedsSo_243 : decode cL_areNeedsSo 243 = .ok (.invokevirtual 24, 3) := by decide +kernel
theorem dL_areNeedsSo_246 : decode cL_areNeedsSo 246 = .ok (.goto 4, 3) := by decide +kernel
theorem dL_areNeedsSo_249 : decode cL_areNeedsSo 249 = .ok (.iconst 0, 1) := by decide +kernel
theorem dL_areNeedsSo_250 : decode cL_areNeedsSo 250 = .ok (.istore 6, 2) := by decide +kernel
theorem dL_areNeedsSo_252 : decode cL_areNeedsSo 252 = .ok (.iload 4, 2) := by decide +kernel
theorem dL_areNeedsSo_254 : decode cL_areNeedsSo 254 = .ok (.ifCond .eq 15, 3) := by decide +kernel
theorem dL_areNeedsSo_257 : decode cL_areNeedsSo 257 = .ok (.aload_n 0, 1) := by decide +kernel
theorem dL_areNeedsSo_258 : decode cL_areNeedsSo 258 = .ok (.iconst 5, 1) := by decide +kernel
theorem dL_areNeedsSo_259 : decode cL_areNeedsSo 259 = .ok (.invokevirtual 8, 3) := by decide +kernel
theorem dL_areNeedsSo_262 : decode cL_areNeedsSo 262 = .ok (.ifCond .le 7, 3) := by decide +kernel
theorem dL_areNeedsSo_265 : decode cL_areNeedsSo 265 = .ok (.iconst 1, 1) := by decide +kernel
theorem dL_areNeedsSo_266 : decode cL_areNeedsSo 266 = .ok (.goto 4, 3) := by decide +kernel
theorem dL_areNeedsSo_269 : decode cL_areNeedsSo 269 = .ok (.iconst 0, 1) := by decide +kernel
theorem dL_areNeedsSo_270 : decode cL_areNeedsSo 270 = .ok (.istore 4, 2) := by decide +kernel
theorem dL_areNeedsSo_272 : decode cL_areNeedsSo 272 = .ok (.iload 5, 2) := by decide +kernel
theorem dL_areNeedsSo_274 : decode cL_areNeedsSo 274 = .ok (.iconst 1, 1) := by decide +kernel
theorem dL_areNeedsSo_275 : decode cL_areNeedsSo 275 = .ok (.if_icmp .le 10, 3) := by decide +kernel
theorem dL_areNeedsSo_278 : decode cL_areNeedsSo 278 = .ok (.aload_n 0, 1) := by decide +kernel
theorem dL_areNeedsSo_279 : decode cL_areNeedsSo 279 = .ok (.invokevirtual 65, 3) := by decide +kernel
theorem dL_areNeedsSo_282 : decode cL_areNeedsSo 282 = .ok (.goto 4, 3) := by decide +kernel
theorem dL_areNeedsSo_285 : decode cL_areNeedsSo 285 = .ok (.iconst 0, 1) := by decide +kernel
theorem dL_areNeedsSo_286 : decode cL_areNeedsSo 286 = .ok (.istore 7, 2) := by decide +kernel
theorem dL_areNeedsSo_288 : decode cL_areNeedsSo 288 = .ok (.aload_n 0, 1) := by decide +kernel
theorem dL_areNeedsSo_289 : decode cL_areNeedsSo 289 = .ok (.iload 5, 2) := by decide +kernel
theorem dL_areNeedsSo_291 : decode cL_areNeedsSo 291 = .ok (.invokevirtual 24, 3) := by decide +kernel
theorem dL_areNeedsSo_294 : decode cL_areNeedsSo 294 = .ok (.istore 6, 2) := by decide +kernel
theorem dL_areNeedsSo_296 : decode cL_areNeedsSo 296 = .ok (.iload 4, 2) := by decide +kernel
theorem dL_areNeedsSo_298 : decode cL_areNeedsSo 298 = .ok (.ifCond .eq 15, 3) := by decide +kernel
theorem dL_areNeedsSo_301 : decode cL_areNeedsSo 301 = .ok (.aload_n 0, 1) := by decide +kernel
theorem dL_areNeedsSo_302 : decode cL_areNeedsSo 302 = .ok (.iconst 5, 1) := by decide +kernel
theorem dL_areNeedsSo_303 : decode cL_areNeedsSo 303 = .ok (.invokevirtual 8, 3) := by decide +kernel
theorem dL_areNeedsSo_306 : decode cL_areNeedsSo 306 = .ok (.ifCond .ne 7, 3) := by decide +kernel
theorem dL_areNeedsSo_309 : decode cL_areNeedsSo 309 = .ok (.iconst 1, 1) := by decide +kernel
theorem dL_areNeedsSo_310 : decode cL_areNeedsSo 310 = .ok (.goto 4, 3) := by decide +kernel
theorem dL_areNeedsSo_313 : decode cL_areNeedsSo 313 = .ok (.iconst 0, 1) := by decide +kernel
theorem dL_areNeedsSo_314 : decode cL_areNeedsSo 314 = .ok (.istore 4, 2) := by decide +kernel
theorem dL_areNeedsSo_316 : decode cL_areNeedsSo 316 = .ok (.aload_n 0, 1) := by decide +kernel
theorem dL_areNeedsSo_317 : decode cL_areNeedsSo 317 = .ok (.invokevirtual 65, 3) := by decide +kernel
theorem dL_areNeedsSo_320 : decode cL_areNeedsSo 320 = .ok (.istore 7, 2) := by decide +kernel
theorem dL_areNeedsSo_322 : decode cL_areNeedsSo 322 = .ok (.iload 4, 2) := by decide +kernel
theorem dL_areNeedsSo_324 : decode cL_areNeedsSo 324 = .ok (.ireturn, 1) := by decide +kernel
set_option maxRecDepth 20000 in
theorem ggL_isLastSo_X5_lasts : GoodIn wsL_isLastSo wsX5_lasts := goodIn_r _ [5, 6, 7, 8, 9, 10, 11, 12, 13, 14, 15, 16, 17, 18, 19, 20, 21, 22, 23, 24, 25, 26, 27, 28, 29, 30, 31, 32, 33, 34, 35, 36, 37, 38, 39, 40, 41, 42, 43, 168, 169, 170, 171, 172, 173, 174, 175, 176, 177, 178, 179, 180, 181, 182, 183, 184, 185, 186, 187, 188, 189] (by decide +kernel) (by decide +kernel)
set_option maxRecDepth 20000 in
theorem gL_isLastSo_X5_lasts : GoodIn wsL_isLastSo (wsV RL 58 RX5 yX5_lasts wsX5_lasts) := goodIn_app (goodIn_of _ (by decide +kernel)) ggL_isLastSo_X5_lasts
set_option maxRecDepth 20000 in
theorem ggL_isLastSo_X5_count : GoodIn wsL_isLastSo wsX5_count := goodIn_r _ [47, 6, 48, 49, 50, 51, 52, 53, 54, 55, 56, 57, 58, 59, 10, 60, 12, 17, 61, 62, 63, 64, 65, 18, 66, 35, 36, 23, 37, 30, 31, 32, 28, 33, 67, 68, 69, 70, 71, 72, 73, 74, 75, 76, 77, 78, 79, 80, 81, 82, 83, 84, 85, 86, 168, 169, 170, 171, 172, 173, 174, 175, 176, 177, 178, 179, 180, 181, 190, 191, 192, 193, 194, 195, 196, 182, 183, 184, 185, 186, 187, 188, 189] (by decide +kernel) (by decide +kernel)
set_option maxRecDepth 20000 in
theorem gL_isLastSo_X5_count : GoodIn wsL_isLastSo (wsV RL 8 RX5 yX5_count wsX5_count) := goodIn_app (goodIn_of _ (by decide +kernel)) ggL_isLastSo_X5_count
set_option maxRecDepth 20000 in
theorem ggL_isLastSo_X5_pass : GoodIn wsL_isLastSo wsX5_pass := goodIn_r _ [90, 55, 6, 91, 92, 93, 94, 95, 96, 97, 98, 99, 100, 10, 101, 18, 102, 103, 104, 105, 81, 12, 17, 80, 106, 107, 108, 109, 110, 23, 111, 112, 113, 42, 43, 30, 25, 114, 115, 116, 117, 118, 119, 120, 4, 121, 122, 123, 124, 125, 126, 38, 39, 40, 41, 127, 128, 129, 130, 61, 131, 132, 133, 134, 135, 136, 137, 138, 139, 140, 141, 142, 168, 169, 170, 171, 172, 173, 174, 195, 196, 175, 176, 177, 178, 179, 180, 181, 182, 183, 184, 185, 186, 187, 188, 189] (by decide +kernel) (by decide +kernel)
set_option maxRecDepth 20000 in
theorem gL_isLastSo_X5_pass : GoodIn wsL_isLastSo (wsV RL 40 RX5 yX5_pass wsX5_pass) := goodIn_app (goodIn_of _ (by decide +kernel)) ggL_isLastSo_X5_pass
set_option maxRecDepth 20000 in
theorem ggL_isLastSo_X5_of : GoodIn wsL_isLastSo wsX5_of := goodIn_r _ [146, 6, 147, 148, 149, 150, 151, 152, 153, 154, 155, 52, 156, 7, 8, 9, 10, 11, 12, 157, 35, 36, 23, 37, 30, 31, 32, 28, 33, 158, 77, 78, 79, 75, 80, 81, 159, 72, 73, 74, 76, 168, 169, 170, 171, 172, 173, 174, 175, 176, 177, 178, 179, 180, 181, 182, 183, 184, 185, 186, 187, 188, 189] (by decide +kernel) (by decide +kernel)
set_option maxRecDepth 20000 in
theorem gL_isLastSo_X5_of : GoodIn wsL_isLastSo (wsV RL 43 RX5 yX5_of wsX5_of) := goodIn_app (goodIn_of _ (by decide +kernel)) ggL_isLastSo_X5_of
set_option maxRecDepth 20000 in
theorem ggL_isLastSo_X5_undo : GoodIn wsL_isLastSo wsX5_undo := goodIn_r _ [163, 55, 6, 56, 164, 165, 166, 94, 167, 96, 97, 98, 99, 100, 10, 101, 18, 102, 103, 104, 105, 81, 12, 17, 80, 106, 107, 108, 109, 110, 23, 111, 112, 113, 42, 43, 30, 25, 114, 115, 168, 169, 170, 171, 172, 173, 174, 195, 196, 175, 176, 177, 178, 179, 180, 181, 182, 183, 184, 185, 186, 187, 188, 189] (by decide +kernel) (by decide +kernel)
set_option maxRecDepth 20000 in
theorem gL_isLastSo_X5_undo : GoodIn wsL_isLastSo (wsV RL 65 RX5 yX5_undo wsX5_undo) := goodIn_app (goodIn_of _ (by decide +kernel)) ggL_isLastSo_X5_undo
theorem dL_isLastSo_0 : decode cL_isLastSo 0 = .ok (.aload_n 0, 1) := by decide +kernel
theorem dL_isLastSo_1 : decode cL_isLastSo 1 = .ok (.iload_n 1, 1) := by decide +kernel
theorem dL_isLastSo_2 : decode cL_isLastSo 2 = .ok (.invokevirtual 58, 3) := by decide +kernel
theorem dL_isLastSo_5 : decode cL_isLastSo 5 = .ok (.istore_n 2, 1) := by decide +kernel
theorem dL_isLastSo_6 : decode cL_isLastSo 6 = .ok (.iload_n 2, 1) := by decide +kernel
theorem dL_isLastSo_7 : decode cL_isLastSo 7 = .ok (.ifCond .eq 14, 3) := by decide +kernel
theorem dL_isLastSo_10 : decode cL_isLastSo 10 = .ok (.aload_n 0, 1) := by decide +kernel
theorem dL_isLastSo_11 : decode cL_isLastSo 11 = .ok (.iconst 0, 1) := by decide +kernel
theorem dL_isLastSo_12 : decode cL_isLastSo 12 = .ok (.invokevirtual 8, 3) := by decide +kernel
theorem dL_isLastSo_15 : decode cL_isLastSo 15 = .ok (.sipush 9000, 3) := by decide +kernel
theorem dL_isLastSo_18 : decode cL_isLastSo 18 = .ok (.if_icmp .le 5, 3) := by decide +kernel
theorem dL_isLastSo_21 : decode cL_isLastSo 21 = .ok (.iconst 1, 1) := by decide +kernel
theorem dL_isLastSo_22 : decode cL_isLastSo 22 = .ok (.ireturn, 1) := by decide +kernel
theorem dL_isLastSo_23 : decode cL_isLastSo 23 = .ok (.iload_n 2, 1) := by decide +kernel
theorem dL_isLastSo_24 : decode cL_isLastSo 24 = .ok (.iconst 1, 1) := by decide +kernel
theorem dL_isLastSo_25 : decode cL_isLastSo 25 = .ok (.if_icmp .le 13, 3) := by decide +kernel
theorem dL_isLastSo_28 : decode cL_isLastSo 28 = .ok (.aload_n 0, 1) := by decide +kernel
theorem dL_isLastSo_29 : decode cL_isLastSo 29 = .ok (.iload_n 2, 1) := by decide +kernel
theorem dL_isLastSo_30 : decode cL_isLastSo 30 = .ok (.iconst 1, 1) := by decide +kernel
theorem dL_isLastSo_31 : decode cL_isLastSo 31 = .ok (.isub, 1) := by decide +kernel
theorem dL_isLastSo_32 : decode cL_isLastSo 32 = .ok (.invokevirtual 40, 3) := by decide +kernel
theorem dL_isLastSo_35 : decode cL_isLastSo 35 = .ok (.goto 4, 3) := by decide +kernel
theorem dL_isLastSo_38 : decode cL_isLastSo 38 = .ok (.iconst 0, 1) := by decide +kernel
theorem dL_isLastSo_39 : decode cL_isLastSo 39 = .ok (.istore_n 3, 1) := by decide +kernel
theorem dL_isLastSo_40 : decode cL_isLastSo 40 = .ok (.aload_n 0, 1) := by decide +kernel
theorem dL_isLastSo_41 : decode cL_isLastSo 41 = .ok (.iload_n 1, 1) := by decide +kernel
theorem dL_isLastSo_42 : decode cL_isLastSo 42 = .ok (.bipush 7, 2) := by decide +kernel
theorem dL_isLastSo_44 : decode cL_isLastSo 44 = .ok (.invokevirtual 43, 3) := by decide +kernel
theorem dL_isLastSo_47 : decode cL_isLastSo 47 = .ok (.iconst 1, 1) := by decide +kernel
theorem dL_isLastSo_48 : decode cL_isLastSo 48 = .ok (.if_icmp .ne 7, 3) := by decide +kernel
theorem dL_isLastSo_51 : decode cL_isLastSo 51 = .ok (.iconst 1, 1) := by decide +kernel
theorem dL_isLastSo_52 : decode cL_isLastSo 52 = .ok (.goto 4, 3) := by decide +kernel
theorem dL_isLastSo_55 : decode cL_isLastSo 55 = .ok (.iconst 0, 1) := by decide +kernel
theorem dL_isLastSo_56 : decode cL_isLastSo 56 = .ok (.istore 4, 2) := by decide +kernel
theorem dL_isLastSo_58 : decode cL_isLastSo 58 = .ok (.aload_n 0, 1) := by decide +kernel
theorem dL_isLastSo_59 : decode cL_isLastSo 59 = .ok (.iconst 1, 1) := by decide +kernel
theorem dL_isLastSo_60 : decode cL_isLastSo 60 = .ok (.invokevirtual 40, 3) := by decide +kernel
theorem dL_isLastSo_63 : decode cL_isLastSo 63 = .ok (.istore 5, 2) := by decide +kernel
theorem dL_isLastSo_65 : decode cL_isLastSo 65 = .ok (.iload 4, 2) := by decide +kernel
theorem dL_isLastSo_67 : decode cL_isLastSo 67 = .ok (.ifCond .eq 17, 3) := by decide +kernel
theorem dL_isLastSo_70 : decode cL_isLastSo 70 = .ok (.aload_n 0, 1) := by decide +kernel
theorem dL_isLastSo_71 : decode cL_isLastSo 71 = .ok (.iload_n 1, 1) := by decide +kernel
theorem dL_isLastSo_72 : decode cL_isLastSo 72 = .ok (.bipush 7, 2) := by decide +kernel
theorem dL_isLastSo_74 : decode cL_isLastSo 74 = .ok (.invokevirtual 43, 3) := by decide +kernel
theorem dL_isLastSo_77 : decode cL_isLastSo 77 = .ok (.ifCond .ne 7, 3) := by decide +kernel
theorem dL_isLastSo_80 : decode cL_isLastSo 80 = .ok (.iconst 1, 1) := by decide +kernel
theorem dL_isLastSo_81 : decode cL_isLastSo 81 = .ok (.goto 4, 3) := by decide +kernel
theorem dL_isLastSo_84 : decode cL_isLastSo 84 = .ok (.iconst 0, 1) := by decide +kernel
theorem dL_isLastSo_85 : decode cL_isLastSo 85 = .ok (.istore 4, 2) := by decide +kernel
theorem dL_isLastSo_87 : decode cL_isLastSo 87 = .ok (.aload_n 0, 1) := by decide +kernel
theorem dL_isLastSo_88 : decode cL_isLastSo 88 = .ok (.invokevirtual 65, 3) := by decide +kernel
theorem dL_isLastSo_91 : decode cL_isLastSo 91 = .ok (.istore 6, 2) := by decide +kernel
theorem dL_isLastSo_93 : decode cL_isLastSo 93 = .ok (.iload_n 2, 1) := by decide +kernel
theorem dL_isLastSo_94 : decode cL_isLastSo 94 = .ok (.iconst 1, 1) := by decide +kernel
theorem dL_isLastSo_95 : decode cL_isLastSo 95 = .ok (.if_icmp .le 10, 3) := by decide +kernel
theorem dL_isLastSo_98 : decode cL_isLastSo 98 = .ok (.aload_n 0, 1) := by decide +kernel
theorem dL_isLastSo_99 : decode cL_isLastSo 99 = .ok (.invokevirtual 65, 3) := by decide +kernel
theorem dL_isLastSo_102 : decode cL_isLastSo 102 = .ok (.goto 5, 3) := by decide +kernel
theorem dL_isLastSo_105 : decode cL_isLastSo 105 = .ok (.iload 6, 2) := by decide +kernel
theorem dL_isLastSo_107 : decode cL_isLastSo 107 = .ok (.istore 6, 2) := by decide +kernel
theorem dL_isLastSo_109 : decode cL_isLastSo 109 = .ok (.iload 4, 2) := by decide +kernel
theorem dL_isLastSo_111 : decode cL_isLastSo 111 = .ok (.ifCond .eq 21, 3) := by decide +kernel
theorem dL_isLastSo_114 : decode cL_isLastSo 114 = .ok (.iload 6, 2) := by decide +kernel
theorem dL_isLastSo_116 : decode cL_isLastSo 116 = .ok (.ifCond .lt 16, 3) := by decide +kernel
theorem dL_isLastSo_119 : decode cL_isLastSo 119 = .ok (.iload_n 3, 1) := by decide +kernel
theorem dL_isLastSo_120 : decode cL_isLastSo 120 = .ok (.ifCond .lt 12, 3) := by decide +kernel
theorem dL_isLastSo_123 : decode cL_isLastSo 123 = .ok (.iload 5, 2) := by decide +kernel
theorem dL_isLastSo_125 : decode cL_isLastSo 125 = .ok (.ifCond .lt 7, 3) := by decide +kernel
theorem dL_isLastSo_128 : decode cL_isLastSo 128 = .ok (.iconst 1, 1) := by decide +kernel
theorem dL_isLastSo_129 : decode cL_isLastSo 129 = .ok (.goto 4, 3) := by decide +kernel
theorem dL_isLastSo_132 : decode cL_isLastSo 132 = .ok (.iconst 0, 1) := by decide +kernel
theorem dL_isLastSo_133 : decode cL_isLastSo 133 = .ok (.ireturn, 1) := by decide +kernel
set_option maxRecDepth 20000 in
theorem ggL_isRoundSo_X5_takes : GoodIn wsL_isRoundSo wsX5_takes := goodIn_r _ [5, 6, 7, 8, 9, 10, 4, 11, 12, 13, 14, 15, 16, 17, 18, 19, 20, 21, 22, 23, 24, 25, 26, 27, 28, 29, 30, 31, 32, 33, 34, 35, 36, 37, 38, 39, 40, 41, 42, 43, 44, 45, 46, 47, 48, 49, 50, 51, 52, 53, 54, 55, 56, 57, 196, 197, 198, 199, 200, 201, 202, 203, 204, 205, 206, 207, 208, 209, 210, 211, 212, 213, 214, 215, 216, 217, 218, 219] (by decide +kernel) (by decide +kernel)
set_option maxRecDepth 20000 in
theorem gL_isRoundSo_X5_takes : GoodIn wsL_isRoundSo (wsV RL 68 RX5 yX5_takes wsX5_takes) := goodIn_app (goodIn_of _ (by decide +kernel)) ggL_isRoundSo_X5_takes
set_option maxRecDepth 20000 in
theorem ggL_isRoundSo_X5_wayRound : GoodIn wsL_isRoundSo wsX5_wayRound := goodIn_r _ [61, 6, 7, 8, 9, 10, 4, 11, 12, 13, 14, 15, 16, 17, 18, 19, 20, 21, 22, 23, 24, 25, 26, 27, 28, 29, 30, 31, 32, 33, 34, 35, 36, 37, 38, 39, 40, 41, 42, 43, 44, 45, 46, 47, 48, 49, 50, 51, 52, 53, 54, 55, 56, 57, 62, 63, 64, 65, 196, 197, 198, 199, 200, 201, 202, 203, 204, 205, 206, 207, 208, 209, 210, 211, 212, 213, 214, 215, 216, 217, 218, 219] (by decide +kernel) (by decide +kernel)
set_option maxRecDepth 20000 in
theorem gL_isRoundSo_X5_wayRound : GoodIn wsL_isRoundSo (wsV RL 71 RX5 yX5_wayRound wsX5_wayRound) := goodIn_app (goodIn_of _ (by decide +kernel)) ggL_isRoundSo_X5_wayRound
set_option maxRecDepth 20000 in
theorem ggL_isRoundSo_X5_count : GoodIn wsL_isRoundSo wsX5_count := goodIn_r _ [69, 6, 70, 12, 71, 72, 73, 74, 75, 76, 77, 78, 79, 80, 28, 81, 46, 31, 82, 83, 84, 85, 86, 37, 87, 88, 89, 90, 91, 92, 93, 34, 35, 36, 94, 95, 96, 97, 54, 55, 56, 57, 51, 47, 48, 49, 50, 52, 53, 98, 99, 100, 101, 102, 196, 197, 198, 199, 200, 201, 202, 203, 204, 205, 206, 207, 208, 209, 220, 221, 222, 223, 224, 225, 226, 212, 213, 214, 215, 216, 217, 218, 219] (by decide +kernel) (by decide +kernel)
set_option maxRecDepth 20000 in
theorem gL_isRoundSo_X5_count : GoodIn wsL_isRoundSo (wsV RL 8 RX5 yX5_count wsX5_count) := goodIn_app (goodIn_of _ (by decide +kernel)) ggL_isRoundSo_X5_count
set_option maxRecDepth 20000 in
theorem ggL_isRoundSo_X5_of : GoodIn wsL_isRoundSo wsX5_of := goodIn_r _ [106, 6, 107, 108, 109, 110, 111, 112, 113, 114, 115, 73, 116, 117, 43, 44, 28, 45, 46, 118, 88, 89, 90, 91, 92, 93, 34, 35, 36, 119, 48, 49, 50, 51, 52, 53, 120, 55, 56, 57, 47, 196, 197, 198, 199, 200, 201, 202, 203, 204, 205, 206, 207, 208, 209, 212, 213, 214, 215, 216, 217, 218, 219] (by decide +kernel) (by decide +kernel)
set_option maxRecDepth 20000 in
theorem gL_isRoundSo_X5_of : GoodIn wsL_isRoundSo (wsV RL 43 RX5 yX5_of wsX5_of) := goodIn_app (goodIn_of _ (by decide +kernel)) ggL_isRoundSo_X5_of
set_option maxRecDepth 20000 in
theorem ggL_isRoundSo_X5_round : GoodIn wsL_isRoundSo wsX5_round := goodIn_r _ [124, 76, 6, 7, 8, 9, 10, 4, 11, 12, 13, 14, 15, 16, 17, 18, 19, 20, 21, 22, 23, 24, 125, 126, 127, 128, 129, 130, 131, 132, 133, 134, 28, 135, 37, 136, 137, 138, 139, 53, 46, 31, 52, 140, 141, 142, 143, 144, 90, 145, 146, 147, 148, 149, 92, 150, 151, 152, 153, 154, 155, 156, 30, 157, 26, 27, 29, 32, 33, 34, 35, 36, 38, 39, 40, 41, 42, 43, 44, 45, 47, 48, 49, 50, 51, 54, 55, 56, 57, 158, 159, 160, 161, 162, 88, 89, 91, 93, 163, 164, 165, 166, 167, 168, 169, 170, 171, 172, 173, 174, 175, 176, 177, 178, 179, 180, 181, 182, 196, 197, 198, 199, 200, 201, 202, 203, 204, 205, 206, 207, 208, 209, 210, 211, 225, 226, 212, 213, 214, 215, 216, 217, 218, 219] (by decide +kernel) (by decide +kernel)
set_option maxRecDepth 20000 in
theorem gL_isRoundSo_X5_round : GoodIn wsL_isRoundSo (wsV RL 37 RX5 yX5_round wsX5_round) := goodIn_app (goodIn_of _ (by decide +kernel)) ggL_isRoundSo_X5_round
set_option maxRecDepth 20000 in
theorem ggL_isRoundSo_L_off : GoodIn wsL_isRoundSo wsL_off := goodIn_r _ [186, 187, 103, 104, 105, 4, 106, 6, 107, 108, 109, 110, 111, 112, 113, 114, 115, 73, 116, 117, 43, 44, 28, 45, 46, 118, 88, 89, 90, 91, 92, 93, 34, 35, 36, 119, 48, 49, 50, 51, 52, 53, 120, 55, 56, 57, 47, 196, 197, 198, 199, 200, 201, 202, 203, 204, 205, 206, 207, 208, 209, 212, 213, 214, 215, 216, 217, 218, 219] (by decide +kernel) (by decide +kernel)
set_option maxRecDepth 20000 in
theorem gL_isRoundSo_L_off : GoodIn wsL_isRoundSo (va_wsS RL 50 yL_off wsL_off) := goodIn_app (goodIn_of _ (by decide +kernel)) ggL_isRoundSo_L_off
set_option maxRecDepth 20000 in
theorem ggL_isRoundSo_X5_undo : GoodIn wsL_isRoundSo wsX5_undo := goodIn_r _ [191, 76, 6, 77, 192, 193, 194, 128, 195, 130, 131, 132, 133, 134, 28, 135, 37, 136, 137, 138, 139, 53, 46, 31, 52, 140, 141, 142, 143, 144, 90, 145, 146, 147, 148, 149, 92, 150, 151, 152, 196, 197, 198, 199, 200, 201, 202, 225, 226, 203, 204, 205, 206, 207, 208, 209, 212, 213, 214, 215, 216, 217, 218, 219] (by decide +kernel) (by decide +kernel)
set_option maxRecDepth 20000 in
theorem gL_isRoundSo_X5_undo : GoodIn wsL_isRoundSo (wsV RL 65 RX5 yX5_undo wsX5_undo) := goodIn_app (goodIn_of _ (by decide +kernel)) ggL_isRoundSo_X5_undo
theorem dL_isRoundSo_0 : decode cL_isRoundSo 0 = .ok (.aload_n 0, 1) := by decide +kernel
theorem dL_isRoundSo_1 : decode cL_isRoundSo 1 = .ok (.iload_n 1, 1) := by decide +kernel
theorem dL_isRoundSo_2 : decode cL_isRoundSo 2 = .ok (.invokevirtual 68, 3) := by decide +kernel
theorem dL_isRoundSo_5 : decode cL_isRoundSo 5 = .ok (.istore_n 2, 1) := by decide +kernel
theorem dL_isRoundSo_6 : decode cL_isRoundSo 6 = .ok (.aload_n 0, 1) := by decide +kernel
theorem dL_isRoundSo_7 : decode cL_isRoundSo 7 = .ok (.iload_n 1, 1) := by decide +kernel
theorem dL_isRoundSo_8 : decode cL_isRoundSo 8 = .ok (.invokevirtual 71, 3) := by decide +kernel
theorem dL_isRoundSo_11 : decode cL_isRoundSo 11 = .ok (.istore_n 3, 1) := by decide +kernel
theorem dL_isRoundSo_12 : decode cL_isRoundSo 12 = .ok (.aload_n 0, 1) := by decide +kernel
theorem dL_isRoundSo_13 : decode cL_isRoundSo 13 = .ok (.bipush 6, 2) := by decide +kernel
theorem dL_isRoundSo_15 : decode cL_isRoundSo 15 = .ok (.invokevirtual 8, 3) := by decide +kernel
theorem dL_isRoundSo_18 : decode cL_isRoundSo 18 = .ok (.istore 4, 2) := by decide +kernel
theorem dL_isRoundSo_20 : decode cL_isRoundSo 20 = .ok (.aload_n 0, 1) := by decide +kernel
theorem dL_isRoundSo_21 : decode cL_isRoundSo 21 = .ok (.iconst 1, 1) := by decide +kernel
theorem dL_isRoundSo_22 : decode cL_isRoundSo 22 = .ok (.invokevirtual 8, 3) := by decide +kernel
theorem dL_isRoundSo_25 : decode cL_isRoundSo 25 = .ok (.istore 5, 2) := by decide +kernel
theorem dL_isRoundSo_27 : decode cL_isRoundSo 27 = .ok (.iconst 0, 1) := by decide +kernel
theorem dL_isRoundSo_28 : decode cL_isRoundSo 28 = .ok (.istore 6, 2) := by decide +kernel
theorem dL_isRoundSo_30 : decode cL_isRoundSo 30 = .ok (.iconst 0, 1) := by decide +kernel
theorem dL_isRoundSo_31 : decode cL_isRoundSo 31 = .ok (.istore 7, 2) := by decide +kernel
theorem dL_isRoundSo_33 : decode cL_isRoundSo 33 = .ok (.iconst 0, 1) := by decide +kernel
theorem dL_isRoundSo_34 : decode cL_isRoundSo 34 = .ok (.istore 8, 2) := by decide +kernel
theorem dL_isRoundSo_36 : decode cL_isRoundSo 36 = .ok (.aload_n 0, 1) := by decide +kernel
theorem dL_isRoundSo_37 : decode cL_isRoundSo 37 = .ok (.bipush 7, 2) := by decide +kernel
theorem dL_isRoundSo_39 : decode cL_isRoundSo 39 = .ok (.invokevirtual 8, 3) := by decide +kernel
theorem dL_isRoundSo_42 : decode cL_isRoundSo 42 = .ok (.istore 9, 2) := by decide +kernel
theorem dL_isRoundSo_44 : decode cL_isRoundSo 44 = .ok (.iconst 0, 1) := by decide +kernel
theorem dL_isRoundSo_45 : decode cL_isRoundSo 45 = .ok (.istore 10, 2) := by decide +kernel
theorem dL_isRoundSo_47 : decode cL_isRoundSo 47 = .ok (.iload 10, 2) := by decide +kernel
theorem dL_isRoundSo_49 : decode cL_isRoundSo 49 = .ok (.iload 5, 2) := by decide +kernel
theorem dL_isRoundSo_51 : decode cL_isRoundSo 51 = .ok (.if_icmp .ge 99, 3) := by decide +kernel
theorem dL_isRoundSo_54 : decode cL_isRoundSo 54 = .ok (.iload_n 1, 1) := by decide +kernel
theorem dL_isRoundSo_55 : decode cL_isRoundSo 55 = .ok (.iload 10, 2) := by decide +kernel
theorem dL_isRoundSo_57 : decode cL_isRoundSo 57 = .ok (.ishr, 1) := by decide +kernel
theorem dL_isRoundSo_58 : decode cL_isRoundSo 58 = .ok (.iconst 1, 1) := by decide +kernel
theorem dL_isRoundSo_59 : decode cL_isRoundSo 59 = .ok (.iand, 1) := by decide +kernel
theorem dL_isRoundSo_60 : decode cL_isRoundSo 60 = .ok (.iconst 1, 1) := by decide +kernel
theorem dL_isRoundSo_61 : decode cL_isRoundSo 61 = .ok (.if_icmp .ne 7, 3) := by decide +kernel
theorem dL_isRoundSo_64 : decode cL_isRoundSo 64 = .ok (.iconst 1, 1) := by decide +kernel
theorem dL_isRoundSo_65 : decode cL_isRoundSo 65 = .ok (.goto 4, 3) := by decide +kernel
theorem dL_isRoundSo_68 : decode cL_isRoundSo 68 = .ok (.iconst 0, 1) := by decide +kernel
theorem dL_isRoundSo_69 : decode cL_isRoundSo 69 = .ok (.istore 11, 2) := by decide +kernel
theorem dL_isRoundSo_71 : decode cL_isRoundSo 71 = .ok (.iload 11, 2) := by decide +kernel
theorem dL_isRoundSo_73 : decode cL_isRoundSo 73 = .ok (.ifCond .eq 25, 3) := by decide +kernel
theorem dL_isRoundSo_76 : decode cL_isRoundSo 76 = .ok (.aload_n 0, 1) := by decide +kernel
theorem dL_isRoundSo_77 : decode cL_isRoundSo 77 = .ok (.iload 10, 2) := by decide +kernel
theorem dL_isRoundSo_79 : decode cL_isRoundSo 79 = .ok (.iconst 0, 1) := by decide +kernel
theorem dL_isRoundSo_80 : decode cL_isRoundSo 80 = .ok (.invokevirtual 43, 3) := by decide +kernel
theorem dL_isRoundSo_83 : decode cL_isRoundSo 83 = .ok (.iload 6, 2) := by decide +kernel
theorem dL_isRoundSo_85 : decode cL_isRoundSo 85 = .ok (.if_icmp .le 13, 3) := by decide +kernel
theorem dL_isRoundSo_88 : decode cL_isRoundSo 88 = .ok (.aload_n 0, 1) := by decide +kernel
theorem dL_isRoundSo_89 : decode cL_isRoundSo 89 = .ok (.iload 10, 2) := by decide +kernel
theorem dL_isRoundSo_91 : decode cL_isRoundSo 91 = .ok (.iconst 0, 1) := by decide +kernel
theorem dL_isRoundSo_92 : decode cL_isRoundSo 92 = .ok (.invokevirtual 43, 3) := by decide +kernel
theorem dL_isRoundSo_95 : decode cL_isRoundSo 95 = .ok (.goto 5, 3) := by decide +kernel
theorem dL_isRoundSo_98 : decode cL_isRoundSo 98 = .ok (.iload 6, 2) := by decide +kernel
theorem dL_isRoundSo_100 : decode cL_isRoundSo 100 = .ok (.istore 6, 2) := by decide +kernel
theorem dL_isRoundSo_102 : decode cL_isRoundSo 102 = .ok (.iload 7, 2) := by decide +kernel
theorem dL_isRoundSo_104 : decode cL_isRoundSo 104 = .ok (.iload 11, 2) := by decide +kernel
theorem dL_isRoundSo_106 : decode cL_isRoundSo 106 = .ok (.ifCond .eq 19, 3) := by decide +kernel
theorem dL_isRoundSo_109 : decode cL_isRoundSo 109 = .ok (.aload_n 0, 1) := by decide +kernel
theorem dL_isRoundSo_110 : decode cL_isRoundSo 110 = .ok (.iload 10, 2) := by decide +kernel
theorem dL_isRoundSo_112 : decode cL_isRoundSo 112 = .ok (.bipush 9, 2) := by decide +kernel
theorem dL_isRoundSo_114 : decode cL_isRoundSo 114 = .ok (.invokevirtual 43, 3) := by decide +kernel
theorem dL_isRoundSo_117 : decode cL_isRoundSo 117 = .ok (.iconst 1, 1) := by decide +kernel
theorem dL_isRoundSo_118 : decode cL_isRoundSo 118 = .ok (.if_icmp .ne 7, 3) := by decide +kernel
theorem dL_isRoundSo_121 : decode cL_isRoundSo 121 = .ok (.iconst 1, 1) := by decide +kernel
theorem dL_isRoundSo_122 : decode cL_isRoundSo 122 = .ok (.goto 4, 3) := by decide +kernel
theorem dL_isRoundSo_125 : decode cL_isRoundSo 125 = .ok (.iconst 0, 1) := by decide +kernel
theorem dL_isRoundSo_126 : decode cL_isRoundSo 126 = .ok (.iadd, 1) := by decide +kernel
theorem dL_isRoundSo_127 : decode cL_isRoundSo 127 = .ok (.istore 7, 2) := by decide +kernel
theorem dL_isRoundSo_129 : decode cL_isRoundSo 129 = .ok (.iload 8, 2) := by decide +kernel
theorem dL_isRoundSo_131 : decode cL_isRoundSo 131 = .ok (.iload 11, 2) := by decide +kernel
theorem dL_isRoundSo_133 : decode cL_isRoundSo 133 = .ok (.ifCond .eq 7, 3) := by decide +kernel
theorem dL_isRoundSo_136 : decode cL_isRoundSo 136 = .ok (.iconst 1, 1) := by decide +kernel
theorem dL_isRoundSo_137 : decode cL_isRoundSo 137 = .ok (.goto 4, 3) := by decide +kernel
theorem dL_isRoundSo_140 : decode cL_isRoundSo 140 = .ok (.iconst 0, 1) := by decide +kernel
theorem dL_isRoundSo_141 : decode cL_isRoundSo 141 = .ok (.iadd, 1) := by decide +kernel
theorem dL_isRoundSo_142 : decode cL_isRoundSo 142 = .ok (.istore 8, 2) := by decide +kernel
theorem dL_isRoundSo_144 : decode cL_isRoundSo 144 = .ok (.iinc 10 1, 3) := by decide +kernel
theorem dL_isRoundSo_147 : decode cL_isRoundSo 147 = .ok (.goto (-100), 3) := by decide +kernel
theorem dL_isRoundSo_150 : decode cL_isRoundSo 150 = .ok (.aload_n 0, 1) := by decide +kernel
theorem dL_isRoundSo_151 : decode cL_isRoundSo 151 = .ok (.iload_n 1, 1) := by decide +kernel
theorem dL_isRoundSo_152 : decode cL_isRoundSo 152 = .ok (.invokevirtual 37, 3) := by decide +kernel
theorem dL_isRoundSo_155 : decode cL_isRoundSo 155 = .ok (.istore 10, 2) := by decide +kernel
theorem dL_isRoundSo_157 : decode cL_isRoundSo 157 = .ok (.iload 8, 2) := by decide +kernel
theorem dL_isRoundSo_159 : decode cL_isRoundSo 159 = .ok (.ifCond .ne 28, 3) := by decide +kernel
theorem dL_isRoundSo_162 : decode cL_isRoundSo 162 = .ok (.iload 10, 2) := by decide +kernel
theorem dL_isRoundSo_164 : decode cL_isRoundSo 164 = .ok (.bipush (-5), 2) := by decide +kernel
theorem dL_isRoundSo_166 : decode cL_isRoundSo 166 = .ok (.if_icmp .ne 19, 3) := by decide +kernel
theorem dL_isRoundSo_169 : decode cL_isRoundSo 169 = .ok (.iload_n 2, 1) := by decide +kernel
theorem dL_isRoundSo_170 : decode cL_isRoundSo 170 = .ok (.iload 10, 2) := by decide +kernel
theorem dL_isRoundSo_172 : decode cL_isRoundSo 172 = .ok (.if_icmp .ne 13, 3) := by decide +kernel
theorem dL_isRoundSo_175 : decode cL_isRoundSo 175 = .ok (.iload_n 3, 1) := by decide +kernel
theorem dL_isRoundSo_176 : decode cL_isRoundSo 176 = .ok (.iload 10, 2) := by decide +kernel
theorem dL_isRoundSo_178 : decode cL_isRoundSo 178 = .ok (.if_icmp .ne 7, 3) := by decide +kernel
theorem dL_isRoundSo_181 : decode cL_isRoundSo 181 = .ok (.iconst 1, 1) := by decide +kernel
theorem dL_isRoundSo_182 : decode cL_isRoundSo 182 = .ok (.goto 4, 3) := by decide +kernel
theorem dL_isRoundSo_185 : decode cL_isRoundSo 185 = .ok (.iconst 0, 1) := by decide +kernel
theorem dL_isRoundSo_186 : decode cL_isRoundSo 186 = .ok (.ireturn, 1) := by decide +kernel
theorem dL_isRoundSo_187 : decode cL_isRoundSo 187 = .ok (.iload 10, 2) := by decide +kernel
theorem dL_isRoundSo_189 : decode cL_isRoundSo 189 = .ok (.iload_n 2, 1) := by decide +kernel
theorem dL_isRoundSo_190 : decode cL_isRoundSo 190 = .ok (.if_icmp .ne 81, 3) := by decide +kernel
theorem dL_isRoundSo_193 : decode cL_isRoundSo 193 = .ok (.iload_n 3, 1) := by decide +kernel
theorem dL_isRoundSo_194 : decode cL_isRoundSo 194 = .ok (.ifCond .lt 77, 3) := by decide +kernel
theorem dL_isRoundSo_197 : decode cL_isRoundSo 197 = .ok (.iload_n 3, 1) := by decide +kernel
theorem dL_isRoundSo_198 : decode cL_isRoundSo 198 = .ok (.iconst 3, 1) := by decide +kernel
theorem dL_isRoundSo_199 : decode cL_isRoundSo 199 = .ok (.if_icmp .ge 72, 3) := by decide +kernel
theorem dL_isRoundSo_202 : decode cL_isRoundSo 202 = .ok (.iload 8, 2) := by decide +kernel
theorem dL_isRoundSo_204 : decode cL_isRoundSo 204 = .ok (.iconst 1, 1) := by decide +kernel
theorem dL_isRoundSo_205 : decode cL_isRoundSo 205 = .ok (.if_icmp .gt 8, 3) := by decide +kernel
theorem dL_isRoundSo_208 : decode cL_isRoundSo 208 = .ok (.iload_n 3, 1) := by decide +kernel
theorem dL_isRoundSo_209 : decode cL_isRoundSo 209 = .ok (.iconst 2, 1) := by decide +kernel
theorem dL_isRoundSo_210 : decode cL_isRoundSo 210 = .ok (.if_icmp .ne 61, 3) := by decide +kernel
theorem dL_isRoundSo_213 : decode cL_isRoundSo 213 = .ok (.iload 10, 2) := by decide +kernel
theorem dL_isRoundSo_215 : decode cL_isRoundSo 215 = .ok (.iconst 2, 1) := by decide +kernel
theorem dL_isRoundSo_216 : decode cL_isRoundSo 216 = .ok (.iload 6, 2) := by decide +kernel
theorem dL_isRoundSo_218 : decode cL_isRoundSo 218 = .ok (.imul, 1) := by decide +kernel
theorem dL_isRoundSo_219 : decode cL_isRoundSo 219 = .ok (.aload_n 0, 1) := by decide +kernel
theorem dL_isRoundSo_220 : decode cL_isRoundSo 220 = .ok (.bipush 10, 2) := by decide +kernel
theorem dL_isRoundSo_222 : decode cL_isRoundSo 222 = .ok (.invokevirtual 8, 3) := by decide +kernel
theorem dL_isRoundSo_225 : decode cL_isRoundSo 225 = .ok (.imul, 1) := by decide +kernel
theorem dL_isRoundSo_226 : decode cL_isRoundSo 226 = .ok (.iload 7, 2) := by decide +kernel
theorem dL_isRoundSo_228 : decode cL_isRoundSo 228 = .ok (.aload_n 0, 1) := by decide +kernel
theorem dL_isRoundSo_229 : decode cL_isRoundSo 229 = .ok (.bipush 11, 2) := by decide +kernel
theorem dL_isRoundSo_231 : decode cL_isRoundSo 231 = .ok (.invokevirtual 8, 3) := by decide +kernel
theorem dL_isRoundSo_234 : decode cL_isRoundSo 234 = .ok (.imul, 1) := by decide +kernel
theorem dL_isRoundSo_235 : decode cL_isRoundSo 235 = .ok (.iadd, 1) := by decide +kernel
theorem dL_isRoundSo_236 : decode cL_isRoundSo 236 = .ok (.if_icmp .lt 35, 3) := by decide +kernel
theorem dL_isRoundSo_239 : decode cL_isRoundSo 239 = .ok (.aload_n 0, 1) := by decide +kernel
theorem dL_isRoundSo_240 : decode cL_isRoundSo 240 = .ok (.bipush 6, 2) := by decide +kernel
theorem dL_isRoundSo_242 : decode cL_isRoundSo 242 = .ok (.invokevirtual 8, 3) := by decide +kernel
theorem dL_isRoundSo_245 : decode cL_isRoundSo 245 = .ok (.iload 4, 2) := by decide +kernel
theorem dL_isRoundSo_247 : decode cL_isRoundSo 247 = .ok (.iload 10, 2) := by decide +kernel
theorem dL_isRoundSo_249 : decode cL_isRoundSo 249 = .ok (.iadd, 1) := by decide +kernel
theorem dL_isRoundSo_250 : decode cL_isRoundSo 250 = .ok (.if_icmp .ne 21, 3) := by decide +kernel
theorem dL_isRoundSo_253 : decode cL_isRoundSo 253 = .ok (.aload_n 0, 1) := by decide +kernel
theorem dL_isRoundSo_254 : decode cL_isRoundSo 254 = .ok (.bipush 7, 2) := by decide +kernel
theorem dL_isRoundSo_256 : decode cL_isRoundSo 256 = .ok (.invokevirtual 8, 3) := by decide +kernel
theorem dL_isRoundSo_259 : decode cL_isRoundSo 259 = .ok (.iload 9, 2) := by decide +kernel
theorem dL_isRoundSo_261 : decode cL_isRoundSo 261 = .ok (.iload 7, 2) := by decide +kernel
theorem dL_isRoundSo_263 : decode cL_isRoundSo 263 = .ok (.iadd, 1) := by decide +kernel
theorem dL_isRoundSo_264 : decode cL_isRoundSo 264 = .ok (.if_icmp .ne 7, 3) := by decide +kernel
theorem dL_isRoundSo_267 : decode cL_isRoundSo 267 = .ok (.iconst 1, 1) := by decide +kernel
theorem dL_isRoundSo_268 : decode cL_isRoundSo 268 = .ok (.goto 4, 3) := by decide +kernel
theorem dL_isRoundSo_271 : decode cL_isRoundSo 271 = .ok (.iconst 0, 1) := by decide +kernel
theorem dL_isRoundSo_272 : decode cL_isRoundSo 272 = .ok (.istore 11, 2) := by decide +kernel
theorem dL_isRoundSo_274 : decode cL_isRoundSo 274 = .ok (.iconst 0, 1) := by decide +kernel
theorem dL_isRoundSo_275 : decode cL_isRoundSo 275 = .ok (.istore 12, 2) := by decide +kernel
theorem dL_isRoundSo_277 : decode cL_isRoundSo 277 = .ok (.iload 12, 2) := by decide +kernel
theorem dL_isRoundSo_279 : decode cL_isRoundSo 279 = .ok (.iload 5, 2) := by decide +kernel
theorem dL_isRoundSo_281 : decode cL_isRoundSo 281 = .ok (.if_icmp .ge 86, 3) := by decide +kernel
theorem dL_isRoundSo_284 : decode cL_isRoundSo 284 = .ok (.iload_n 1, 1) := by decide +kernel
theorem dL_isRoundSo_285 : decode cL_isRoundSo 285 = .ok (.iload 12, 2) := by decide +kernel
theorem dL_isRoundSo_287 : decode cL_isRoundSo 287 = .ok (.ishr, 1) := by decide +kernel
theorem dL_isRoundSo_288 : decode cL_isRoundSo 288 = .ok (.iconst 1, 1) := by decide +kernel
theorem dL_isRoundSo_289 : decode cL_isRoundSo 289 = .ok (.iand, 1) := by decide +kernel
theorem dL_isRoundSo_290 : decode cL_isRoundSo 290 = .ok (.iconst 1, 1) := by decide +kernel
theorem dL_isRoundSo_291 : decode cL_isRoundSo 291 = .ok (.if_icmp .ne 19, 3) := by decide +kernel
theorem dL_isRoundSo_294 : decode cL_isRoundSo 294 = .ok (.aload_n 0, 1) := by decide +kernel
theorem dL_isRoundSo_295 : decode cL_isRoundSo 295 = .ok (.iload 12, 2) := by decide +kernel
theorem dL_isRoundSo_297 : decode cL_isRoundSo 297 = .ok (.bipush 9, 2) := by decide +kernel
theorem dL_isRoundSo_299 : decode cL_isRoundSo 299 = .ok (.invokevirtual 43, 3) := by decide +kernel
theorem dL_isRoundSo_302 : decode cL_isRoundSo 302 = .ok (.iconst 1, 1) := by decide +kernel
theorem dL_isRoundSo_303 : decode cL_isRoundSo 303 = .ok (.if_icmp .ne 7, 3) := by decide +kernel
theorem dL_isRoundSo_306 : decode cL_isRoundSo 306 = .ok (.iconst 1, 1) := by decide +kernel
theorem dL_isRoundSo_307 : decode cL_isRoundSo 307 = .ok (.goto 4, 3) := by decide +kernel
theorem dL_isRoundSo_310 : decode cL_isRoundSo 310 = .ok (.iconst 0, 1) := by decide +kernel
theorem dL_isRoundSo_311 : decode cL_isRoundSo 311 = .ok (.istore 13, 2) := by decide +kernel
theorem dL_isRoundSo_313 : decode cL_isRoundSo 313 = .ok (.iload 11, 2) := by decide +kernel
theorem dL_isRoundSo_315 : decode cL_isRoundSo 315 = .ok (.ifCond .eq 43, 3) := by decide +kernel
theorem dL_isRoundSo_318 : decode cL_isRoundSo 318 = .ok (.iload 13, 2) := by decide +kernel
theorem dL_isRoundSo_320 : decode cL_isRoundSo 320 = .ok (.ifCond .eq 34, 3) := by decide +kernel
theorem dL_isRoundSo_323 : decode cL_isRoundSo 323 = .ok (.aload_n 0, 1) := by decide +kernel
theorem dL_isRoundSo_324 : decode cL_isRoundSo 324 = .ok (.iload 12, 2) := by decide +kernel
theorem dL_isRoundSo_326 : decode cL_isRoundSo 326 = .ok (.bipush 6, 2) := by decide +kernel
theorem dL_isRoundSo_328 : decode cL_isRoundSo 328 = .ok (.invokevirtual 43, 3) := by decide +kernel
theorem dL_isRoundSo_331 : decode cL_isRoundSo 331 = .ok (.iconst 1, 1) := by decide +kernel
theorem dL_isRoundSo_332 : decode cL_isRoundSo 332 = .ok (.if_icmp .ne 26, 3) := by decide +kernel
theorem dL_isRoundSo_335 : decode cL_isRoundSo 335 = .ok (.aload_n 0, 1) := by decide +kernel
theorem dL_isRoundSo_336 : decode cL_isRoundSo 336 = .ok (.iload 12, 2) := by decide +kernel
theorem dL_isRoundSo_338 : decode cL_isRoundSo 338 = .ok (.invokestatic 50, 3) := by decide +kernel
theorem dL_isRoundSo_341 : decode cL_isRoundSo 341 = .ok (.ifCond .ne 17, 3) := by decide +kernel
theorem dL_isRoundSo_344 : decode cL_isRoundSo 344 = .ok (.aload_n 0, 1) := by decide +kernel
theorem dL_isRoundSo_345 : decode cL_isRoundSo 345 = .ok (.iload 12, 2) := by decide +kernel
theorem dL_isRoundSo_347 : decode cL_isRoundSo 347 = .ok (.iconst 5, 1) := by decide +kernel
theorem dL_isRoundSo_348 : decode cL_isRoundSo 348 = .ok (.invokevirtual 43, 3) := by decide +kernel
theorem dL_isRoundSo_351 : decode cL_isRoundSo 351 = .ok (.ifCond .ne 7, 3) := by decide +kernel
theorem dL_isRoundSo_354 : decode cL_isRoundSo 354 = .ok (.iconst 1, 1) := by decide +kernel
theorem dL_isRoundSo_355 : decode cL_isRoundSo 355 = .ok (.goto 4, 3) := by decide +kernel
theorem dL_isRoundSo_358 : decode cL_isRoundSo 358 = .ok (.iconst 0, 1) := by decide +kernel
theorem dL_isRoundSo_359 : decode cL_isRoundSo 359 = .ok (.istore 11, 2) := by decide +kernel
theorem dL_isRoundSo_361 : decode cL_isRoundSo 361 = .ok (.iinc 12 1, 3) := by decide +kernel
theorem dL_isRoundSo_364 : decode cL_isRoundSo 364 = .ok (.goto (-87), 3) := by decide +kernel
theorem dL_isRoundSo_367 : decode cL_isRoundSo 367 = .ok (.aload_n 0, 1) := by decide +kernel
theorem dL_isRoundSo_368 : decode cL_isRoundSo 368 = .ok (.invokevirtual 65, 3) := by decide +kernel
theorem dL_isRoundSo_371 : decode cL_isRoundSo 371 = .ok (.istore 12, 2) := by decide +kernel
theorem dL_isRoundSo_373 : decode cL_isRoundSo 373 = .ok (.iload 11, 2) := by decide +kernel
theorem dL_isRoundSo_375 : decode cL_isRoundSo 375 = .ok (.ifCond .eq 23, 3) := by decide +kernel
theorem dL_isRoundSo_378 : decode cL_isRoundSo 378 = .ok (.iload 12, 2) := by decide +kernel
theorem dL_isRoundSo_380 : decode cL_isRoundSo 380 = .ok (.ifCond .lt 18, 3) := by decide +kernel
theorem dL_isRoundSo_383 : decode cL_isRoundSo 383 = .ok (.aload_n 0, 1) := by decide +kernel
theorem dL_isRoundSo_384 : decode cL_isRoundSo 384 = .ok (.bipush 6, 2) := by decide +kernel
theorem dL_isRoundSo_386 : decode cL_isRoundSo 386 = .ok (.invokevirtual 8, 3) := by decide +kernel
theorem dL_isRoundSo_389 : decode cL_isRoundSo 389 = .ok (.iload 4, 2) := by decide +kernel
theorem dL_isRoundSo_391 : decode cL_isRoundSo 391 = .ok (.if_icmp .ne 7, 3) := by decide +kernel
theorem dL_isRoundSo_394 : decode cL_isRoundSo 394 = .ok (.iconst 1, 1) := by decide +kernel
theorem dL_isRoundSo_395 : decode cL_isRoundSo 395 = .ok (.goto 4, 3) := by decide +kernel
theorem dL_isRoundSo_398 : decode cL_isRoundSo 398 = .ok (.iconst 0, 1) := by decide +kernel
theorem dL_isRoundSo_399 : decode cL_isRoundSo 399 = .ok (.ireturn, 1) := by decide +kernel
