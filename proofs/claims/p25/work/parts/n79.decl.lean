set_option maxRecDepth 20000 in
theorem ggL_law_X5_init : GoodIn wsL_law wsX5_init := goodIn_r _ [6, 7, 8, 9, 10, 11, 12, 13, 14, 15, 16, 17, 18, 19, 20, 21, 22, 23, 24, 25, 26, 27, 28, 29, 30, 31, 32, 33, 34, 35, 36, 37, 38, 39, 40, 41, 42, 43, 44, 45, 46, 47, 48, 49, 50, 51, 52, 53, 54, 55, 56, 57, 58, 59, 60, 61, 62, 63, 64, 65, 384, 385, 386, 387, 388, 389, 390, 377, 378, 379, 380, 381, 382, 383, 391, 392, 393, 394, 395, 396, 397, 398, 399, 400, 401, 402, 403, 404, 405, 406, 407] (by decide +kernel) (by decide +kernel)
set_option maxRecDepth 20000 in
theorem gL_law_X5_init : GoodIn wsL_law (wsX5_init) := ggL_law_X5_init
set_option maxRecDepth 20000 in
theorem ggL_law_L_cell : GoodIn wsL_law wsL_cell := goodIn_r _ [69] (by decide +kernel) (by decide +kernel)
set_option maxRecDepth 20000 in
theorem gL_law_L_cell : GoodIn wsL_law (va_wsS RL 75 yL_cell wsL_cell) := goodIn_app (goodIn_of _ (by decide +kernel)) ggL_law_L_cell
set_option maxRecDepth 20000 in
theorem ggL_law_L_does : GoodIn wsL_law wsL_does := goodIn_r _ [72, 3, 73, 74, 75, 2, 76, 13, 77, 78, 79, 80, 81, 24, 82, 17, 83, 84, 85, 86, 12, 87, 88, 37, 89, 90, 91, 92, 93, 35, 94, 95, 96, 44, 97, 98, 99, 100, 101, 102, 103, 104, 105, 106, 107, 108, 109, 110, 111, 112, 113, 114, 115, 116, 38, 117, 118, 119, 120, 121, 122, 123, 68, 124, 125, 126, 127, 128, 129, 130, 131, 132, 16, 133, 134, 53, 135, 136, 137, 138, 39, 40, 41, 42, 139, 140, 141, 142, 143, 144, 145, 146, 147, 148, 149, 150, 151, 152, 153, 154, 155, 156, 157, 158, 159, 160, 161, 162, 163, 164, 165, 166, 167, 168, 169, 170, 171, 172, 173, 174, 175, 176, 177, 178, 179, 180, 181, 182, 183, 184, 185, 186, 187, 188, 189, 190, 191, 192, 193, 194, 195, 196, 197, 198, 199, 200, 201, 202, 203, 204, 205, 206, 207, 208, 209, 210, 211, 212, 213, 214, 215, 216, 217, 218, 219, 28, 220, 221, 222, 223, 224, 225, 226, 227, 27, 228, 229, 230, 231, 232, 233, 65, 234, 235, 236, 237, 238, 239, 240, 241, 242, 243, 244, 245, 246, 247, 248, 249, 250, 251, 252, 253, 254, 255, 256, 257, 258, 259, 260, 261, 262, 263, 264, 265, 266, 267, 268, 269, 270, 271, 272, 273, 274, 377, 378, 379, 380, 381, 382, 383, 384, 385, 386, 387, 388, 389, 390, 393, 394, 395, 396, 397, 391, 392, 400, 401, 402, 403, 404, 405, 406, 407, 398, 399] (by decide +kernel) (by decide +kernel)
set_option maxRecDepth 20000 in
theorem gL_law_L_does : GoodIn wsL_law (va_wsS RL 79 yL_does wsL_does) := goodIn_app (goodIn_of _ (by decide +kernel)) ggL_law_L_does
set_option maxRecDepth 20000 in
theorem ggL_law_X5_count : GoodIn wsL_law wsX5_count := goodIn_r _ [76, 13, 77, 78, 79, 80, 81, 24, 82, 17, 83, 84, 85, 86, 12, 87, 88, 37, 89, 90, 91, 92, 93, 35, 94, 95, 96, 44, 97, 98, 99, 100, 101, 102, 103, 104, 105, 106, 107, 108, 109, 110, 111, 112, 113, 114, 115, 116, 38, 117, 118, 119, 120, 121, 377, 378, 379, 380, 381, 382, 383, 384, 385, 386, 387, 388, 389, 390, 393, 394, 395, 396, 397, 391, 392, 400, 401, 402, 403, 404, 405, 406, 407] (by decide +kernel) (by decide +kernel)
set_option maxRecDepth 20000 in
theorem gL_law_X5_count : GoodIn wsL_law (wsV RL 8 RX5 yX5_count wsX5_count) := goodIn_app (goodIn_of _ (by decide +kernel)) ggL_law_X5_count
set_option maxRecDepth 20000 in
theorem ggL_law_L_areClocksSo : GoodIn wsL_law wsL_areClocksSo := goodIn_r _ [277, 278, 73, 74, 75, 2, 76, 13, 77, 78, 79, 80, 81, 24, 82, 17, 83, 84, 85, 86, 12, 87, 88, 37, 89, 90, 91, 92, 93, 35, 94, 95, 96, 44, 97, 98, 99, 100, 101, 102, 103, 104, 105, 106, 107, 108, 109, 110, 111, 112, 113, 114, 115, 116, 38, 117, 118, 119, 120, 121, 279, 280, 281, 282, 283, 284, 285, 286, 287, 288, 289, 290, 291, 292, 293, 192, 193, 194, 294, 295, 296, 297, 298, 299, 300, 301, 302, 303, 304, 305, 306, 307, 68, 308, 309, 377, 378, 379, 380, 381, 382, 383, 384, 385, 386, 387, 388, 389, 390, 393, 394, 395, 396, 397, 391, 392, 400, 401, 402, 403, 404, 405, 406, 407] (by decide +kernel) (by decide +kernel)
set_option maxRecDepth 20000 in
theorem gL_law_L_areClocksSo : GoodIn wsL_law (va_wsS RL 82 yL_areClocksSo wsL_areClocksSo) := goodIn_app (goodIn_of _ (by decide +kernel)) ggL_law_L_areClocksSo
set_option maxRecDepth 20000 in
theorem ggL_law_L_areNeedsSo : GoodIn wsL_law wsL_areNeedsSo := goodIn_r _ [312, 73, 74, 75, 2, 76, 13, 77, 78, 79, 80, 81, 24, 82, 17, 83, 84, 85, 86, 12, 87, 88, 37, 89, 90, 91, 92, 93, 35, 94, 95, 96, 44, 97, 98, 99, 100, 101, 102, 103, 104, 105, 106, 107, 108, 109, 110, 111, 112, 113, 114, 115, 116, 38, 117, 118, 119, 120, 121, 313, 314, 315, 316, 30, 317, 318, 319, 320, 321, 322, 323, 324, 191, 192, 193, 194, 325, 326, 327, 328, 149, 329, 330, 331, 253, 258, 259, 260, 261, 147, 148, 332, 333, 334, 335, 336, 337, 338, 339, 293, 340, 279, 280, 281, 282, 283, 284, 285, 286, 287, 288, 289, 290, 291, 292, 294, 295, 296, 341, 342, 343, 344, 345, 346, 347, 348, 349, 174, 175, 176, 177, 130, 131, 132, 16, 133, 134, 53, 135, 136, 137, 138, 39, 40, 41, 42, 139, 140, 141, 142, 143, 144, 145, 146, 150, 151, 178, 179, 180, 181, 156, 157, 162, 163, 164, 165, 166, 167, 168, 169, 170, 171, 172, 173, 350, 351, 352, 353, 354, 355, 356, 357, 377, 378, 379, 380, 381, 382, 383, 384, 385, 386, 387, 388, 389, 390, 393, 394, 395, 396, 397, 391, 392, 400, 401, 402, 403, 404, 405, 406, 407] (by decide +kernel) (by decide +kernel)
set_option maxRecDepth 20000 in
theorem gL_law_L_areNeedsSo : GoodIn wsL_law (va_wsS RL 86 yL_areNeedsSo wsL_areNeedsSo) := goodIn_app (goodIn_of _ (by decide +kernel)) ggL_law_L_areNeedsSo
set_option maxRecDepth 20000 in
theorem ggL_law_L_low : GoodIn wsL_law wsL_low := goodIn_r _ [124, 125] (by decide +kernel) (by decide +kernel)
set_option maxRecDepth 20000 in
theorem gL_law_L_low : GoodIn wsL_law (va_wsS RL 14 yL_low wsL_low) := goodIn_app (goodIn_of _ (by decide +kernel)) ggL_law_L_low
set_option maxRecDepth 20000 in
theorem ggL_law_L_isLastSo : GoodIn wsL_law wsL_isLastSo := goodIn_r _ [360, 336, 337, 338, 2, 339, 13, 293, 192, 193, 12, 194, 88, 340, 322, 323, 324, 37, 35, 191, 325, 326, 327, 44, 328, 149, 329, 330, 101, 331, 98, 99, 100, 102, 253, 95, 96, 97, 258, 259, 260, 261, 147, 148, 73, 74, 75, 76, 77, 78, 79, 80, 81, 24, 82, 17, 83, 84, 85, 86, 87, 89, 90, 91, 92, 93, 94, 103, 104, 105, 106, 107, 108, 109, 110, 111, 112, 113, 114, 115, 116, 38, 117, 118, 119, 120, 121, 262, 263, 264, 265, 130, 131, 132, 16, 133, 134, 53, 135, 136, 137, 138, 39, 40, 41, 42, 139, 140, 141, 142, 143, 144, 145, 146, 150, 151, 266, 267, 268, 269, 156, 157, 270, 271, 272, 273, 274, 212, 213, 214, 215, 162, 163, 164, 165, 166, 167, 168, 169, 170, 171, 172, 173, 279, 280, 281, 282, 283, 284, 285, 286, 287, 288, 289, 290, 291, 292, 294, 295, 296, 350, 351, 352, 353, 354, 355, 356, 357, 377, 378, 379, 380, 381, 382, 383, 384, 385, 386, 387, 388, 389, 390, 400, 401, 402, 403, 404, 405, 406, 407, 393, 394, 395, 396, 397, 391, 392] (by decide +kernel) (by decide +kernel)
set_option maxRecDepth 20000 in
theorem gL_law_L_isLastSo : GoodIn wsL_law (va_wsS RL 89 yL_isLastSo wsL_isLastSo) := goodIn_app (goodIn_of _ (by decide +kernel)) ggL_law_L_isLastSo
set_option maxRecDepth 20000 in
theorem ggL_law_L_isRoundSo : GoodIn wsL_law wsL_isRoundSo := goodIn_r _ [363, 364, 365, 366, 2, 367, 13, 28, 220, 221, 222, 223, 78, 224, 225, 226, 227, 27, 228, 229, 230, 231, 232, 233, 65, 368, 240, 241, 12, 242, 238, 37, 243, 244, 100, 101, 102, 35, 245, 246, 247, 248, 191, 192, 193, 194, 88, 112, 113, 114, 115, 111, 116, 38, 107, 108, 109, 110, 369, 370, 371, 372, 373, 374, 375, 376, 73, 74, 75, 76, 77, 79, 80, 81, 24, 82, 17, 83, 84, 85, 86, 87, 89, 90, 91, 92, 93, 94, 95, 96, 44, 97, 98, 99, 103, 104, 105, 106, 117, 118, 119, 120, 121, 279, 280, 281, 282, 283, 284, 285, 286, 287, 288, 289, 290, 291, 292, 293, 294, 295, 296, 216, 217, 218, 219, 130, 131, 132, 16, 133, 134, 53, 135, 136, 137, 138, 39, 40, 41, 42, 139, 140, 141, 142, 143, 144, 145, 146, 147, 148, 149, 150, 151, 234, 235, 236, 237, 239, 249, 250, 251, 252, 253, 254, 255, 256, 257, 258, 259, 260, 261, 162, 163, 164, 165, 166, 167, 168, 169, 170, 171, 172, 173, 306, 307, 68, 308, 309, 350, 351, 352, 353, 354, 355, 356, 357, 377, 378, 379, 380, 381, 382, 383, 384, 385, 386, 387, 388, 389, 390, 398, 399, 400, 401, 402, 403, 404, 405, 406, 407, 393, 394, 395, 396, 397, 391, 392] (by decide +kernel) (by decide +kernel)
set_option maxRecDepth 20000 in
theorem gL_law_L_isRoundSo : GoodIn wsL_law (va_wsS RL 93 yL_isRoundSo wsL_isRoundSo) := goodIn_app (goodIn_of _ (by decide +kernel)) ggL_law_L_isRoundSo
theorem dL_law_0 : decode cL_law 0 = .ok (.new 9, 3) := by decide +kernel
theorem dL_law_3 : decode cL_law 3 = .ok (.dup, 1) := by decide +kernel
theorem dL_law_4 : decode cL_law 4 = .ok (.invokespecial 74, 3) := by decide +kernel
theorem dL_law_7 : decode cL_law 7 = .ok (.astore_n 1, 1) := by decide +kernel
theorem dL_law_8 : decode cL_law 8 = .ok (.iconst 0, 1) := by decide +kernel
theorem dL_law_9 : decode cL_law 9 = .ok (.istore_n 2, 1) := by decide +kernel
theorem dL_law_10 : decode cL_law 10 = .ok (.iload_n 2, 1) := by decide +kernel
theorem dL_law_11 : decode cL_law 11 = .ok (.bipush 56, 2) := by decide +kernel
theorem dL_law_13 : decode cL_law 13 = .ok (.if_icmp .ge 106, 3) := by decide +kernel
theorem dL_law_16 : decode cL_law 16 = .ok (.aload_n 0, 1) := by decide +kernel
theorem dL_law_17 : decode cL_law 17 = .ok (.iload_n 2, 1) := by decide +kernel
theorem dL_law_18 : decode cL_law 18 = .ok (.invokestatic 75, 3) := by decide +kernel
theorem dL_law_21 : decode cL_law 21 = .ok (.istore_n 3, 1) := by decide +kernel
theorem dL_law_22 : decode cL_law 22 = .ok (.aload_n 1, 1) := by decide +kernel
theorem dL_law_23 : decode cL_law 23 = .ok (.iload_n 3, 1) := by decide +kernel
theorem dL_law_24 : decode cL_law 24 = .ok (.invokestatic 79, 3) := by decide +kernel
theorem dL_law_27 : decode cL_law 27 = .ok (.istore 4, 2) := by decide +kernel
theorem dL_law_29 : decode cL_law 29 = .ok (.aload_n 1, 1) := by decide +kernel
theorem dL_law_30 : decode cL_law 30 = .ok (.iconst 1, 1) := by decide +kernel
theorem dL_law_31 : decode cL_law 31 = .ok (.invokevirtual 8, 3) := by decide +kernel
theorem dL_law_34 : decode cL_law 34 = .ok (.istore 5, 2) := by decide +kernel
theorem dL_law_36 : decode cL_law 36 = .ok (.iload 4, 2) := by decide +kernel
theorem dL_law_38 : decode cL_law 38 = .ok (.bipush (-6), 2) := by decide +kernel
theorem dL_law_40 : decode cL_law 40 = .ok (.if_icmp .lt 71, 3) := by decide +kernel
theorem dL_law_43 : decode cL_law 43 = .ok (.aload_n 1, 1) := by decide +kernel
theorem dL_law_44 : decode cL_law 44 = .ok (.invokestatic 82, 3) := by decide +kernel
theorem dL_law_47 : decode cL_law 47 = .ok (.ifCond .eq 64, 3) := by decide +kernel
theorem dL_law_50 : decode cL_law 50 = .ok (.iload_n 2, 1) := by decide +kernel
theorem dL_law_51 : decode cL_law 51 = .ok (.iconst 4, 1) := by decide +kernel
theorem dL_law_52 : decode cL_law 52 = .ok (.irem, 1) := by decide +kernel
theorem dL_law_53 : decode cL_law 53 = .ok (.iconst 1, 1) := by decide +kernel
theorem dL_law_54 : decode cL_law 54 = .ok (.if_icmp .ne 10, 3) := by decide +kernel
theorem dL_law_57 : decode cL_law 57 = .ok (.aload_n 1, 1) := by decide +kernel
theorem dL_law_58 : decode cL_law 58 = .ok (.invokestatic 86, 3) := by decide +kernel
theorem dL_law_61 : decode cL_law 61 = .ok (.ifCond .eq 50, 3) := by decide +kernel
theorem dL_law_64 : decode cL_law 64 = .ok (.iload_n 2, 1) := by decide +kernel
theorem dL_law_65 : decode cL_law 65 = .ok (.iconst 3, 1) := by decide +kernel
theorem dL_law_66 : decode cL_law 66 = .ok (.irem, 1) := by decide +kernel
theorem dL_law_67 : decode cL_law 67 = .ok (.iconst 2, 1) := by decide +kernel
theorem dL_law_68 : decode cL_law 68 = .ok (.if_icmp .ne 23, 3) := by decide +kernel
theorem dL_law_71 : decode cL_law 71 = .ok (.iload 5, 2) := by decide +kernel
theorem dL_law_73 : decode cL_law 73 = .ok (.ifCond .le 18, 3) := by decide +kernel
theorem dL_law_76 : decode cL_law 76 = .ok (.aload_n 1, 1) := by decide +kernel
theorem dL_law_77 : decode cL_law 77 = .ok (.iload_n 3, 1) := by decide +kernel
theorem dL_law_78 : decode cL_law 78 = .ok (.iconst 5, 1) := by decide +kernel
theorem dL_law_79 : decode cL_law 79 = .ok (.ishr, 1) := by decide +kernel
theorem dL_law_80 : decode cL_law 80 = .ok (.iload 5, 2) := by decide +kernel
theorem dL_law_82 : decode cL_law 82 = .ok (.invokestatic 14, 3) := by decide +kernel
theorem dL_law_85 : decode cL_law 85 = .ok (.invokestatic 89, 3) := by decide +kernel
theorem dL_law_88 : decode cL_law 88 = .ok (.ifCond .eq 23, 3) := by decide +kernel
theorem dL_law_91 : decode cL_law 91 = .ok (.iload_n 2, 1) := by decide +kernel
theorem dL_law_92 : decode cL_law 92 = .ok (.iconst 3, 1) := by decide +kernel
theorem dL_law_93 : decode cL_law 93 = .ok (.irem, 1) := by decide +kernel
theorem dL_law_94 : decode cL_law 94 = .ok (.iconst 1, 1) := by decide +kernel
theorem dL_law_95 : decode cL_law 95 = .ok (.if_icmp .ne 18, 3) := by decide +kernel
theorem dL_law_98 : decode cL_law 98 = .ok (.aload_n 1, 1) := by decide +kernel
theorem dL_law_99 : decode cL_law 99 = .ok (.iload_n 3, 1) := by decide +kernel
theorem dL_law_100 : decode cL_law 100 = .ok (.iconst 5, 1) := by decide +kernel
theorem dL_law_101 : decode cL_law 101 = .ok (.ishr, 1) := by decide +kernel
theorem dL_law_102 : decode cL_law 102 = .ok (.ldc 36, 2) := by decide +kernel
theorem dL_law_104 : decode cL_law 104 = .ok (.iand, 1) := by decide +kernel
theorem dL_law_105 : decode cL_law 105 = .ok (.invokestatic 93, 3) := by decide +kernel
theorem dL_law_108 : decode cL_law 108 = .ok (.ifCond .ne 5, 3) := by decide +kernel
theorem dL_law_111 : decode cL_law 111 = .ok (.iconst 0, 1) := by decide +kernel
theorem dL_law_112 : decode cL_law 112 = .ok (.ireturn, 1) := by decide +kernel
theorem dL_law_113 : decode cL_law 113 = .ok (.iinc 2 1, 3) := by decide +kernel
theorem dL_law_116 : decode cL_law 116 = .ok (.goto (-106), 3) := by decide +kernel
theorem dL_law_119 : decode cL_law 119 = .ok (.iconst 1, 1) := by decide +kernel
theorem dL_law_120 : decode cL_law 120 = .ok (.ireturn, 1) := by decide +kernel
